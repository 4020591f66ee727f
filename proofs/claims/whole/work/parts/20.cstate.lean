/-! THE CLASS: its world, and a rule for each link and array -/
theorem bI_fit (b : Bool) : fits .boolean (.int (bI b)) = true := by cases b <;> rfl
abbrev tq (q : Nat → Nat) (t : Nat) : Nat := q (3 * t + 9)
def IP (q : Nat → Nat) (dom : Nat → Prop) (cell : Nat → va_E) (w : mM) : Prop := (∀ i, dom i → w (q i) = some (cell i)) ∧ ∀ i j, dom i → dom j → q i = q j → i = j
theorem IP.upd {q : Nat → Nat} {dom : Nat → Prop} {cell cell2 : Nat → va_E} {w : mM} (h : IP q dom cell w) (i0 : Nat) (hi : dom i0) (h2 : ∀ i, dom i → i ≠ i0 → cell2 i = cell i) : IP q dom cell2 (mU w (q i0) (cell2 i0)) := by
  refine ⟨fun i hi2 => ?_, h.2⟩
  by_cases e : i = i0
  · subst e
    exact mU_s _ _ _
  · rw [mU_n (fun z => e (h.2 i i0 hi2 hi z)), h2 i hi2 e]
    exact h.1 i hi2
def thC (cI cT : ClassId) (q : Nat → Nat) (fl : Nat → Nat) (num : Nat → Nat → Int32) (rfs : Nat → Nat → Option Nat) (tad : Nat → Nat) (trm : Nat → Bool) (tpl wlk ord : Nat → Nat) (r k : Nat) : va_E := match r with
  | 0 => .inr (5, [.int (nI k), .ref (q (3 * k + 10)), .ref (q (3 * k + 11)), .int (nI (tad k)), .int (bI (trm k)), .int (nI (tpl k)), .int (nI (wlk k)), .int (nI (ord k))])
  | 1 => .inl (cI, fl k, .inl (fun j => num k j))
  | _ => .inl (cT, fl k, .inr (.inr (.inr (.inr (fun j => (rfs k j).map (tq q))))))
def kpC (q : Nat → Nat) (kp Wn st coll mins movd : Nat) : va_E := match kp with
  | 0 => .inr (4, [.ref (q 1), .ref (q 3), .ref (q 6), .int (nI coll), .int (nI mins), .int (nI movd)])
  | 1 => .inr (1, [.ref (q 1), .ref (q 3), .ref (q 6), .int (nI coll), .int (nI mins), .int (nI movd), .int (nI (Wn / 2)), .ref (q 8), .int (nI st)])
  | _ => .inr (0, [.ref (q 1), .ref (q 3), .ref (q 6), .int (nI coll), .int (nI mins), .int (nI movd), .int (nI (Wn / 4)), .ref (q 8)])
def cellC (cI cT : ClassId) (q : Nat → Nat) (kp : Nat) (Wn : Nat) (made : Nat) (fl : (Nat → Nat)) (num : (Nat → Nat → Int32)) (rfs : (Nat → Nat → Option Nat)) (root : (Nat → Option Nat)) (own : (Nat → Option Nat)) (tad : (Nat → Nat)) (trm : (Nat → Bool)) (tpl : (Nat → Nat)) (wlk : (Nat → Nat)) (ord : (Nat → Nat)) (met : (Nat → Option Nat)) (msz : Nat) (cur : Nat) (mend : Nat) (pnx : Nat) (pen : Nat) (st : Nat) (coll : Nat) (mins : Nat) (movd : Nat) : Nat → va_E
  | 0 => .inr (8, [.ref (q 1), .ref (q 3), .ref (q 5), .int (nI made)])
  | 1 => .inr (7, [.ref (q 2)])
  | 2 => .inl (cT, Wn, .inr (.inr (.inr (.inr (fun k => if k < Wn then (own k).map (tq q) else none)))))
  | 3 => .inr (3, [.ref (q 4)])
  | 4 => .inl (cT, 16, .inr (.inr (.inr (.inr (fun k => if k < 16 then (root k).map (tq q) else none)))))
  | 5 => kpC q kp Wn st coll mins movd
  | 6 => .inr (6, [.ref (q 7), .int (nI msz), .int (nI cur), .int (nI mend)])
  | 7 => .inl (cT, Wn, .inr (.inr (.inr (.inr (fun k => if k < Wn then (met k).map (tq q) else none)))))
  | 8 => .inr (2, [.int (nI pnx), .int (nI pen)])
  | n + 9 => thC cI cT q fl num rfs tad trm tpl wlk ord (n % 3) (n / 3)
def domC (kp made : Nat) (i : Nat) : Prop := i < 8 ∨ (i = 8 ∧ kp ≠ 0) ∨ (9 ≤ i ∧ i < 9 + 3 * made)
def CW (cI cT : ClassId) (q : Nat → Nat) (kp : Nat) (Wn : Nat) (made : Nat) (fl : (Nat → Nat)) (num : (Nat → Nat → Int32)) (rfs : (Nat → Nat → Option Nat)) (root : (Nat → Option Nat)) (own : (Nat → Option Nat)) (tad : (Nat → Nat)) (trm : (Nat → Bool)) (tpl : (Nat → Nat)) (wlk : (Nat → Nat)) (ord : (Nat → Nat)) (met : (Nat → Option Nat)) (msz : Nat) (cur : Nat) (mend : Nat) (pnx : Nat) (pen : Nat) (st : Nat) (coll : Nat) (mins : Nat) (movd : Nat) (w : mM) : Prop := IP q (domC kp made) (cellC cI cT q kp Wn made fl num rfs root own tad trm tpl wlk ord met msz cur mend pnx pen st coll mins movd) w
theorem up_trq (n : Nat) (g : Nat → Nat) (f : Nat → Option Nat) (j : Nat) (hj : j < n) (v : Option Nat) : va_up (fun k => if k < n then (f k).map g else none) j (v.map g) = fun k => if k < n then (va_up f j v k).map g else none := by
  funext k
  unfold va_up
  by_cases h : k = j
  · rw [if_pos h, if_pos h, if_pos (by omega)]
  · rw [if_neg h, if_neg h]
section CC
variable {p : Program} {l : Launch} {e : Env} {R : Room} {s : State} {m : MethodId} {args : Array Value} {below : List Frame} {meth : Method} {c : Code} {H : Heap} {locs : List Loc} {cells slots : Nat} {Q : State → Prop}
variable {cc : ByteArray} {pc nL : Nat} {ls : Array Slot} {rest st0 : List Value} {dC : Nat → ClassId} {dI : Nat → Nat → Nat} {A : Nat → Prop} {w : mM} {H0 : Heap} {cI cZ cT : ClassId} {q : Nat → Nat} {ow : String}
variable {kp : Nat} {Wn : Nat} {made : Nat} {fl : (Nat → Nat)} {num : (Nat → Nat → Int32)} {rfs : (Nat → Nat → Option Nat)} {root : (Nat → Option Nat)} {own : (Nat → Option Nat)} {tad : (Nat → Nat)} {trm : (Nat → Bool)} {tpl : (Nat → Nat)} {wlk : (Nat → Nat)} {ord : (Nat → Nat)} {met : (Nat → Option Nat)} {msz : Nat} {cur : Nat} {mend : Nat} {pnx : Nat} {pen : Nat} {st : Nat} {coll : Nat} {mins : Nat} {movd : Nat}
theorem CW.obj9 (hC : CW cI cT q kp Wn made fl num rfs root own tad trm tpl wlk ord met msz cur mend pnx pen st coll mins movd w) : w (q 0) = some (.inr (8, [.ref (q 1), .ref (q 3), .ref (q 5), .int (nI made)])) := hC.1 0 (Or.inl (by decide))
theorem CW.obj8 (hC : CW cI cT q kp Wn made fl num rfs root own tad trm tpl wlk ord met msz cur mend pnx pen st coll mins movd w) : w (q 1) = some (.inr (7, [.ref (q 2)])) := hC.1 1 (Or.inl (by decide))
theorem CW.aown (hC : CW cI cT q kp Wn made fl num rfs root own tad trm tpl wlk ord met msz cur mend pnx pen st coll mins movd w) : w (q 2) = some (.inl (cT, Wn, .inr (.inr (.inr (.inr (fun k => if k < Wn then (own k).map (tq q) else none)))))) := hC.1 2 (Or.inl (by decide))
theorem CW.obj4 (hC : CW cI cT q kp Wn made fl num rfs root own tad trm tpl wlk ord met msz cur mend pnx pen st coll mins movd w) : w (q 3) = some (.inr (3, [.ref (q 4)])) := hC.1 3 (Or.inl (by decide))
theorem CW.aroot (hC : CW cI cT q kp Wn made fl num rfs root own tad trm tpl wlk ord met msz cur mend pnx pen st coll mins movd w) : w (q 4) = some (.inl (cT, 16, .inr (.inr (.inr (.inr (fun k => if k < 16 then (root k).map (tq q) else none)))))) := hC.1 4 (Or.inl (by decide))
theorem CW.kpr (hC : CW cI cT q kp Wn made fl num rfs root own tad trm tpl wlk ord met msz cur mend pnx pen st coll mins movd w) : w (q 5) = some (kpC q kp Wn st coll mins movd) := hC.1 5 (Or.inl (by decide))
theorem CW.obj5 (hC : CW cI cT q kp Wn made fl num rfs root own tad trm tpl wlk ord met msz cur mend pnx pen st coll mins movd w) (hk : kp = 0) : w (q 5) = some (.inr (4, [.ref (q 1), .ref (q 3), .ref (q 6), .int (nI coll), .int (nI mins), .int (nI movd)])) := by subst hk; exact hC.kpr
theorem CW.obj1 (hC : CW cI cT q kp Wn made fl num rfs root own tad trm tpl wlk ord met msz cur mend pnx pen st coll mins movd w) (hk : kp = 1) : w (q 5) = some (.inr (1, [.ref (q 1), .ref (q 3), .ref (q 6), .int (nI coll), .int (nI mins), .int (nI movd), .int (nI (Wn / 2)), .ref (q 8), .int (nI st)])) := by subst hk; exact hC.kpr
theorem CW.obj0 (hC : CW cI cT q kp Wn made fl num rfs root own tad trm tpl wlk ord met msz cur mend pnx pen st coll mins movd w) (hk : kp = 2) : w (q 5) = some (.inr (0, [.ref (q 1), .ref (q 3), .ref (q 6), .int (nI coll), .int (nI mins), .int (nI movd), .int (nI (Wn / 4)), .ref (q 8)])) := by subst hk; exact hC.kpr
theorem CW.obj7 (hC : CW cI cT q kp Wn made fl num rfs root own tad trm tpl wlk ord met msz cur mend pnx pen st coll mins movd w) : w (q 6) = some (.inr (6, [.ref (q 7), .int (nI msz), .int (nI cur), .int (nI mend)])) := hC.1 6 (Or.inl (by decide))
theorem CW.amet (hC : CW cI cT q kp Wn made fl num rfs root own tad trm tpl wlk ord met msz cur mend pnx pen st coll mins movd w) : w (q 7) = some (.inl (cT, Wn, .inr (.inr (.inr (.inr (fun k => if k < Wn then (met k).map (tq q) else none)))))) := hC.1 7 (Or.inl (by decide))
theorem CW.obj3 (hC : CW cI cT q kp Wn made fl num rfs root own tad trm tpl wlk ord met msz cur mend pnx pen st coll mins movd w) (hk : kp ≠ 0) : w (q 8) = some (.inr (2, [.int (nI pnx), .int (nI pen)])) := hC.1 8 (Or.inr (Or.inl ⟨rfl, hk⟩))
theorem domC_t {kp made k r : Nat} (hk : k < made) (hr : r < 3) : domC kp made (3 * k + r + 9) := Or.inr (Or.inr ⟨by omega, by omega⟩)
theorem CW.th (hC : CW cI cT q kp Wn made fl num rfs root own tad trm tpl wlk ord met msz cur mend pnx pen st coll mins movd w) {k : Nat} (hk : k < made) : w (tq q k) = some (.inr (5, [.int (nI k), .ref (q (3 * k + 10)), .ref (q (3 * k + 11)), .int (nI (tad k)), .int (bI (trm k)), .int (nI (tpl k)), .int (nI (wlk k)), .int (nI (ord k))])) := by
  have h := hC.1 (3 * k + 9) (domC_t (r := 0) hk (by decide))
  have h1 : cellC cI cT q kp Wn made fl num rfs root own tad trm tpl wlk ord met msz cur mend pnx pen st coll mins movd (3 * k + 9) = thC cI cT q fl num rfs tad trm tpl wlk ord (3 * k % 3) (3 * k / 3) := rfl
  rw [h1, show 3 * k % 3 = 0 by omega, show 3 * k / 3 = k by omega] at h
  exact h
theorem CW.thn (hC : CW cI cT q kp Wn made fl num rfs root own tad trm tpl wlk ord met msz cur mend pnx pen st coll mins movd w) {k : Nat} (hk : k < made) : w (q (3 * k + 10)) = some (.inl (cI, fl k, .inl (fun j => num k j))) := by
  have h := hC.1 (3 * k + 10) (domC_t (r := 1) hk (by decide))
  have h1 : cellC cI cT q kp Wn made fl num rfs root own tad trm tpl wlk ord met msz cur mend pnx pen st coll mins movd (3 * k + 10) = thC cI cT q fl num rfs tad trm tpl wlk ord ((3 * k + 1) % 3) ((3 * k + 1) / 3) := rfl
  rw [h1, show (3 * k + 1) % 3 = 1 by omega, show (3 * k + 1) / 3 = k by omega] at h
  exact h
theorem CW.tht (hC : CW cI cT q kp Wn made fl num rfs root own tad trm tpl wlk ord met msz cur mend pnx pen st coll mins movd w) {k : Nat} (hk : k < made) : w (q (3 * k + 11)) = some (.inl (cT, fl k, .inr (.inr (.inr (.inr (fun j => (rfs k j).map (tq q))))))) := by
  have h := hC.1 (3 * k + 11) (domC_t (r := 2) hk (by decide))
  have h1 : cellC cI cT q kp Wn made fl num rfs root own tad trm tpl wlk ord met msz cur mend pnx pen st coll mins movd (3 * k + 11) = thC cI cT q fl num rfs tad trm tpl wlk ord ((3 * k + 2) % 3) ((3 * k + 2) / 3) := rfl
  rw [h1, show (3 * k + 2) % 3 = 2 by omega, show (3 * k + 2) / 3 = k by omega] at h
  exact h
theorem cg_RX9_21 (S : CallFix p m c cc nL s args wsL RX9) (hK : va_K (dC, dI) vwCl (tyL cI cZ cT) s) (hG : mG (dC, dI) vwCl A H0 w H locs) (hC : CW cI cT q kp Wn made fl num rfs root own tad trm tpl wlk ord met msz cur mend pnx pen st coll mins movd w) (hdg : decode cc pc = .ok (.getfield 21, 3)) (kk : W p l e R s m args below meth c H locs cells slots Q (F0 m (pc + 3) ls (.ref (q 1) :: rest))) : W p l e R s m args below meth c H locs cells slots Q (F0 m pc ls (.ref (q 0) :: rest)) :=
  mw_get S inlX9 hK hG hC.obj9 rfl 0 (by decide) in_22 (fun _ h9 => h9) rfl hdg kk
theorem cg_RX9_25 (S : CallFix p m c cc nL s args wsL RX9) (hK : va_K (dC, dI) vwCl (tyL cI cZ cT) s) (hG : mG (dC, dI) vwCl A H0 w H locs) (hC : CW cI cT q kp Wn made fl num rfs root own tad trm tpl wlk ord met msz cur mend pnx pen st coll mins movd w) (hdg : decode cc pc = .ok (.getfield 25, 3)) (kk : W p l e R s m args below meth c H locs cells slots Q (F0 m (pc + 3) ls (.ref (q 3) :: rest))) : W p l e R s m args below meth c H locs cells slots Q (F0 m pc ls (.ref (q 0) :: rest)) :=
  mw_get S inlX9 hK hG hC.obj9 rfl 1 (by decide) in_23 (fun _ h9 => h9) rfl hdg kk
theorem cg_RX9_33 (S : CallFix p m c cc nL s args wsL RX9) (hK : va_K (dC, dI) vwCl (tyL cI cZ cT) s) (hG : mG (dC, dI) vwCl A H0 w H locs) (hC : CW cI cT q kp Wn made fl num rfs root own tad trm tpl wlk ord met msz cur mend pnx pen st coll mins movd w) (hdg : decode cc pc = .ok (.getfield 33, 3)) (kk : W p l e R s m args below meth c H locs cells slots Q (F0 m (pc + 3) ls (.ref (q 5) :: rest))) : W p l e R s m args below meth c H locs cells slots Q (F0 m pc ls (.ref (q 0) :: rest)) :=
  mw_get S inlX9 hK hG hC.obj9 rfl 2 (by decide) in_24 (fun _ h9 => h9) rfl hdg kk
theorem cg_RX9_37 (S : CallFix p m c cc nL s args wsL RX9) (hK : va_K (dC, dI) vwCl (tyL cI cZ cT) s) (hG : mG (dC, dI) vwCl A H0 w H locs) (hC : CW cI cT q kp Wn made fl num rfs root own tad trm tpl wlk ord met msz cur mend pnx pen st coll mins movd w) (hdg : decode cc pc = .ok (.getfield 37, 3)) (kk : W p l e R s m args below meth c H locs cells slots Q (F0 m (pc + 3) ls (.int (nI made) :: rest))) : W p l e R s m args below meth c H locs cells slots Q (F0 m pc ls (.ref (q 0) :: rest)) :=
  mw_get S inlX9 hK hG hC.obj9 rfl 3 (by decide) in_25 (fun _ h9 => h9) rfl hdg kk
theorem cp_skip_RX9_37 : True := trivial
theorem cg_RX8_17 (S : CallFix p m c cc nL s args wsL RX8) (hK : va_K (dC, dI) vwCl (tyL cI cZ cT) s) (hG : mG (dC, dI) vwCl A H0 w H locs) (hC : CW cI cT q kp Wn made fl num rfs root own tad trm tpl wlk ord met msz cur mend pnx pen st coll mins movd w) (hdg : decode cc pc = .ok (.getfield 17, 3)) (kk : W p l e R s m args below meth c H locs cells slots Q (F0 m (pc + 3) ls (.ref (q 2) :: rest))) : W p l e R s m args below meth c H locs cells slots Q (F0 m pc ls (.ref (q 1) :: rest)) :=
  mw_get S inlX8 hK hG hC.obj8 rfl 0 (by decide) in_42 (fun _ h9 => h9) rfl hdg kk
theorem cg_RX4_11 (S : CallFix p m c cc nL s args wsL RX4) (hK : va_K (dC, dI) vwCl (tyL cI cZ cT) s) (hG : mG (dC, dI) vwCl A H0 w H locs) (hC : CW cI cT q kp Wn made fl num rfs root own tad trm tpl wlk ord met msz cur mend pnx pen st coll mins movd w) (hdg : decode cc pc = .ok (.getfield 11, 3)) (kk : W p l e R s m args below meth c H locs cells slots Q (F0 m (pc + 3) ls (.ref (q 4) :: rest))) : W p l e R s m args below meth c H locs cells slots Q (F0 m pc ls (.ref (q 3) :: rest)) :=
  mw_get S inlX4 hK hG hC.obj4 rfl 0 (by decide) in_48 (fun _ h9 => h9) rfl hdg kk
theorem cg_RX1_13 (S : CallFix p m c cc nL s args wsL RX1) (hK : va_K (dC, dI) vwCl (tyL cI cZ cT) s) (hG : mG (dC, dI) vwCl A H0 w H locs) (hC : CW cI cT q kp Wn made fl num rfs root own tad trm tpl wlk ord met msz cur mend pnx pen st coll mins movd w) (hk : kp = 1) (hdg : decode cc pc = .ok (.getfield 13, 3)) (kk : W p l e R s m args below meth c H locs cells slots Q (F0 m (pc + 3) ls (.int (nI (Wn / 2)) :: rest))) : W p l e R s m args below meth c H locs cells slots Q (F0 m pc ls (.ref (q 5) :: rest)) :=
  mw_get S inlX1 hK hG (hC.obj1 hk) rfl 6 (by decide) in_64 (fun _ h9 => h9) rfl hdg kk
theorem cg_RX1_24 (S : CallFix p m c cc nL s args wsL RX1) (hK : va_K (dC, dI) vwCl (tyL cI cZ cT) s) (hG : mG (dC, dI) vwCl A H0 w H locs) (hC : CW cI cT q kp Wn made fl num rfs root own tad trm tpl wlk ord met msz cur mend pnx pen st coll mins movd w) (hk : kp = 1) (hdg : decode cc pc = .ok (.getfield 24, 3)) (kk : W p l e R s m args below meth c H locs cells slots Q (F0 m (pc + 3) ls (.ref (q 8) :: rest))) : W p l e R s m args below meth c H locs cells slots Q (F0 m pc ls (.ref (q 5) :: rest)) :=
  mw_get S inlX1 hK hG (hC.obj1 hk) rfl 7 (by decide) in_68 (fun _ h9 => h9) rfl hdg kk
theorem cg_RX1_28 (S : CallFix p m c cc nL s args wsL RX1) (hK : va_K (dC, dI) vwCl (tyL cI cZ cT) s) (hG : mG (dC, dI) vwCl A H0 w H locs) (hC : CW cI cT q kp Wn made fl num rfs root own tad trm tpl wlk ord met msz cur mend pnx pen st coll mins movd w) (hk : kp = 1) (hdg : decode cc pc = .ok (.getfield 28, 3)) (kk : W p l e R s m args below meth c H locs cells slots Q (F0 m (pc + 3) ls (.int (nI st) :: rest))) : W p l e R s m args below meth c H locs cells slots Q (F0 m pc ls (.ref (q 5) :: rest)) :=
  mw_get S inlX1 hK hG (hC.obj1 hk) rfl 8 (by decide) in_69 (fun _ h9 => h9) rfl hdg kk
theorem cp_RX1_28 (S : CallFix p m c cc nL s args wsL RX1) (hK : va_K (dC, dI) vwCl (tyL cI cZ cT) s) (hG : mG (dC, dI) vwCl A H0 w H locs) (hC : CW cI cT q kp Wn made fl num rfs root own tad trm tpl wlk ord met msz cur mend pnx pen st coll mins movd w) (hk : kp = 1) (x : Nat) (hdg : decode cc pc = .ok (.putfield 28, 3)) (kk : ∀ (w : mM) (H1 : Heap) (locs1 : List Loc), CW cI cT q kp Wn made fl num rfs root own tad trm tpl wlk ord met msz cur mend pnx pen x coll mins movd w → mG (dC, dI) vwCl A H0 w H1 locs1 → W p l e R s m args below meth c H1 locs1 cells slots Q (F0 m (pc + 3) ls rest)) : W p l e R s m args below meth c H locs cells slots Q (F0 m pc ls (.int (nI x) :: .ref (q 5) :: rest)) := by
  subst hk
  exact mw_put S inlX1 tyX1 tyX1_ok nmX1 hK hG hC.kpr rfl 8 (by decide) in_69 (fun _ h9 => h9) rfl (ty := .int) (by decide +kernel) rfl rfl (Nat.le_of_ble_eq_true rfl) hdg (fun H1 locs1 hG1 => kk _ H1 locs1 (IP.upd (cell2 := cellC cI cT q 1 Wn made fl num rfs root own tad trm tpl wlk ord met msz cur mend pnx pen x coll mins movd) hC 5 (Or.inl (by decide)) (fun i hi hn => by rcases i with _|_|_|_|_|_|_|_|_|i <;> first | rfl | exact absurd rfl hn)) hG1)
theorem cg_RX2_9 (S : CallFix p m c cc nL s args wsL RX2) (hK : va_K (dC, dI) vwCl (tyL cI cZ cT) s) (hG : mG (dC, dI) vwCl A H0 w H locs) (hC : CW cI cT q kp Wn made fl num rfs root own tad trm tpl wlk ord met msz cur mend pnx pen st coll mins movd w) (hdg : decode cc pc = .ok (.getfield 9, 3)) (kk : W p l e R s m args below meth c H locs cells slots Q (F0 m (pc + 3) ls (.ref (q 1) :: rest))) : W p l e R s m args below meth c H locs cells slots Q (F0 m pc ls (.ref (q 5) :: rest)) := by
  have h := hC.kpr
  rcases kp with _ | _ | kp
  · exact mw_get S inlX5 hK hG h rfl 0 (by decide) in_75 (fun _ h9 => h9) rfl hdg kk
  · exact mw_get S inlX1 hK hG h rfl 0 (by decide) in_75 (fun _ h9 => h9) rfl hdg kk
  · exact mw_get S inlX0 hK hG h rfl 0 (by decide) in_75 (fun _ h9 => h9) rfl hdg kk
theorem cg_RX2_15 (S : CallFix p m c cc nL s args wsL RX2) (hK : va_K (dC, dI) vwCl (tyL cI cZ cT) s) (hG : mG (dC, dI) vwCl A H0 w H locs) (hC : CW cI cT q kp Wn made fl num rfs root own tad trm tpl wlk ord met msz cur mend pnx pen st coll mins movd w) (hdg : decode cc pc = .ok (.getfield 15, 3)) (kk : W p l e R s m args below meth c H locs cells slots Q (F0 m (pc + 3) ls (.ref (q 3) :: rest))) : W p l e R s m args below meth c H locs cells slots Q (F0 m pc ls (.ref (q 5) :: rest)) := by
  have h := hC.kpr
  rcases kp with _ | _ | kp
  · exact mw_get S inlX5 hK hG h rfl 1 (by decide) in_76 (fun _ h9 => h9) rfl hdg kk
  · exact mw_get S inlX1 hK hG h rfl 1 (by decide) in_76 (fun _ h9 => h9) rfl hdg kk
  · exact mw_get S inlX0 hK hG h rfl 1 (by decide) in_76 (fun _ h9 => h9) rfl hdg kk
theorem cg_RX2_30 (S : CallFix p m c cc nL s args wsL RX2) (hK : va_K (dC, dI) vwCl (tyL cI cZ cT) s) (hG : mG (dC, dI) vwCl A H0 w H locs) (hC : CW cI cT q kp Wn made fl num rfs root own tad trm tpl wlk ord met msz cur mend pnx pen st coll mins movd w) (hdg : decode cc pc = .ok (.getfield 30, 3)) (kk : W p l e R s m args below meth c H locs cells slots Q (F0 m (pc + 3) ls (.ref (q 6) :: rest))) : W p l e R s m args below meth c H locs cells slots Q (F0 m pc ls (.ref (q 5) :: rest)) := by
  have h := hC.kpr
  rcases kp with _ | _ | kp
  · exact mw_get S inlX5 hK hG h rfl 2 (by decide) in_80 (fun _ h9 => h9) rfl hdg kk
  · exact mw_get S inlX1 hK hG h rfl 2 (by decide) in_80 (fun _ h9 => h9) rfl hdg kk
  · exact mw_get S inlX0 hK hG h rfl 2 (by decide) in_80 (fun _ h9 => h9) rfl hdg kk
theorem cg_RX2_34 (S : CallFix p m c cc nL s args wsL RX2) (hK : va_K (dC, dI) vwCl (tyL cI cZ cT) s) (hG : mG (dC, dI) vwCl A H0 w H locs) (hC : CW cI cT q kp Wn made fl num rfs root own tad trm tpl wlk ord met msz cur mend pnx pen st coll mins movd w) (hdg : decode cc pc = .ok (.getfield 34, 3)) (kk : W p l e R s m args below meth c H locs cells slots Q (F0 m (pc + 3) ls (.int (nI coll) :: rest))) : W p l e R s m args below meth c H locs cells slots Q (F0 m pc ls (.ref (q 5) :: rest)) := by
  have h := hC.kpr
  rcases kp with _ | _ | kp
  · exact mw_get S inlX5 hK hG h rfl 3 (by decide) in_81 (fun _ h9 => h9) rfl hdg kk
  · exact mw_get S inlX1 hK hG h rfl 3 (by decide) in_81 (fun _ h9 => h9) rfl hdg kk
  · exact mw_get S inlX0 hK hG h rfl 3 (by decide) in_81 (fun _ h9 => h9) rfl hdg kk
theorem cg_RX2_38 (S : CallFix p m c cc nL s args wsL RX2) (hK : va_K (dC, dI) vwCl (tyL cI cZ cT) s) (hG : mG (dC, dI) vwCl A H0 w H locs) (hC : CW cI cT q kp Wn made fl num rfs root own tad trm tpl wlk ord met msz cur mend pnx pen st coll mins movd w) (hdg : decode cc pc = .ok (.getfield 38, 3)) (kk : W p l e R s m args below meth c H locs cells slots Q (F0 m (pc + 3) ls (.int (nI mins) :: rest))) : W p l e R s m args below meth c H locs cells slots Q (F0 m pc ls (.ref (q 5) :: rest)) := by
  have h := hC.kpr
  rcases kp with _ | _ | kp
  · exact mw_get S inlX5 hK hG h rfl 4 (by decide) in_82 (fun _ h9 => h9) rfl hdg kk
  · exact mw_get S inlX1 hK hG h rfl 4 (by decide) in_82 (fun _ h9 => h9) rfl hdg kk
  · exact mw_get S inlX0 hK hG h rfl 4 (by decide) in_82 (fun _ h9 => h9) rfl hdg kk
theorem cg_RX2_41 (S : CallFix p m c cc nL s args wsL RX2) (hK : va_K (dC, dI) vwCl (tyL cI cZ cT) s) (hG : mG (dC, dI) vwCl A H0 w H locs) (hC : CW cI cT q kp Wn made fl num rfs root own tad trm tpl wlk ord met msz cur mend pnx pen st coll mins movd w) (hdg : decode cc pc = .ok (.getfield 41, 3)) (kk : W p l e R s m args below meth c H locs cells slots Q (F0 m (pc + 3) ls (.int (nI movd) :: rest))) : W p l e R s m args below meth c H locs cells slots Q (F0 m pc ls (.ref (q 5) :: rest)) := by
  have h := hC.kpr
  rcases kp with _ | _ | kp
  · exact mw_get S inlX5 hK hG h rfl 5 (by decide) in_83 (fun _ h9 => h9) rfl hdg kk
  · exact mw_get S inlX1 hK hG h rfl 5 (by decide) in_83 (fun _ h9 => h9) rfl hdg kk
  · exact mw_get S inlX0 hK hG h rfl 5 (by decide) in_83 (fun _ h9 => h9) rfl hdg kk
theorem cg_RX7_17 (S : CallFix p m c cc nL s args wsL RX7) (hK : va_K (dC, dI) vwCl (tyL cI cZ cT) s) (hG : mG (dC, dI) vwCl A H0 w H locs) (hC : CW cI cT q kp Wn made fl num rfs root own tad trm tpl wlk ord met msz cur mend pnx pen st coll mins movd w) (hdg : decode cc pc = .ok (.getfield 17, 3)) (kk : W p l e R s m args below meth c H locs cells slots Q (F0 m (pc + 3) ls (.ref (q 7) :: rest))) : W p l e R s m args below meth c H locs cells slots Q (F0 m pc ls (.ref (q 6) :: rest)) :=
  mw_get S inlX7 hK hG hC.obj7 rfl 0 (by decide) in_94 (fun _ h9 => h9) rfl hdg kk
theorem cg_RX7_23 (S : CallFix p m c cc nL s args wsL RX7) (hK : va_K (dC, dI) vwCl (tyL cI cZ cT) s) (hG : mG (dC, dI) vwCl A H0 w H locs) (hC : CW cI cT q kp Wn made fl num rfs root own tad trm tpl wlk ord met msz cur mend pnx pen st coll mins movd w) (hdg : decode cc pc = .ok (.getfield 23, 3)) (kk : W p l e R s m args below meth c H locs cells slots Q (F0 m (pc + 3) ls (.int (nI msz) :: rest))) : W p l e R s m args below meth c H locs cells slots Q (F0 m pc ls (.ref (q 6) :: rest)) :=
  mw_get S inlX7 hK hG hC.obj7 rfl 1 (by decide) in_95 (fun _ h9 => h9) rfl hdg kk
theorem cp_RX7_23 (S : CallFix p m c cc nL s args wsL RX7) (hK : va_K (dC, dI) vwCl (tyL cI cZ cT) s) (hG : mG (dC, dI) vwCl A H0 w H locs) (hC : CW cI cT q kp Wn made fl num rfs root own tad trm tpl wlk ord met msz cur mend pnx pen st coll mins movd w) (x : Nat) (hdg : decode cc pc = .ok (.putfield 23, 3)) (kk : ∀ (w : mM) (H1 : Heap) (locs1 : List Loc), CW cI cT q kp Wn made fl num rfs root own tad trm tpl wlk ord met x cur mend pnx pen st coll mins movd w → mG (dC, dI) vwCl A H0 w H1 locs1 → W p l e R s m args below meth c H1 locs1 cells slots Q (F0 m (pc + 3) ls rest)) : W p l e R s m args below meth c H locs cells slots Q (F0 m pc ls (.int (nI x) :: .ref (q 6) :: rest)) :=
  mw_put S inlX7 tyX7 tyX7_ok nmX7 hK hG hC.obj7 rfl 1 (by decide) in_95 (fun _ h9 => h9) rfl (ty := .int) (by decide +kernel) rfl rfl (Nat.le_of_ble_eq_true rfl) hdg (fun H1 locs1 hG1 => kk _ H1 locs1 (IP.upd (cell2 := cellC cI cT q kp Wn made fl num rfs root own tad trm tpl wlk ord met x cur mend pnx pen st coll mins movd) hC 6 (Or.inl (by decide)) (fun i hi hn => by rcases i with _|_|_|_|_|_|_|_|_|i <;> first | rfl | exact absurd rfl hn)) hG1)
theorem cg_RX7_27 (S : CallFix p m c cc nL s args wsL RX7) (hK : va_K (dC, dI) vwCl (tyL cI cZ cT) s) (hG : mG (dC, dI) vwCl A H0 w H locs) (hC : CW cI cT q kp Wn made fl num rfs root own tad trm tpl wlk ord met msz cur mend pnx pen st coll mins movd w) (hdg : decode cc pc = .ok (.getfield 27, 3)) (kk : W p l e R s m args below meth c H locs cells slots Q (F0 m (pc + 3) ls (.int (nI cur) :: rest))) : W p l e R s m args below meth c H locs cells slots Q (F0 m pc ls (.ref (q 6) :: rest)) :=
  mw_get S inlX7 hK hG hC.obj7 rfl 2 (by decide) in_96 (fun _ h9 => h9) rfl hdg kk
theorem cp_RX7_27 (S : CallFix p m c cc nL s args wsL RX7) (hK : va_K (dC, dI) vwCl (tyL cI cZ cT) s) (hG : mG (dC, dI) vwCl A H0 w H locs) (hC : CW cI cT q kp Wn made fl num rfs root own tad trm tpl wlk ord met msz cur mend pnx pen st coll mins movd w) (x : Nat) (hdg : decode cc pc = .ok (.putfield 27, 3)) (kk : ∀ (w : mM) (H1 : Heap) (locs1 : List Loc), CW cI cT q kp Wn made fl num rfs root own tad trm tpl wlk ord met msz x mend pnx pen st coll mins movd w → mG (dC, dI) vwCl A H0 w H1 locs1 → W p l e R s m args below meth c H1 locs1 cells slots Q (F0 m (pc + 3) ls rest)) : W p l e R s m args below meth c H locs cells slots Q (F0 m pc ls (.int (nI x) :: .ref (q 6) :: rest)) :=
  mw_put S inlX7 tyX7 tyX7_ok nmX7 hK hG hC.obj7 rfl 2 (by decide) in_96 (fun _ h9 => h9) rfl (ty := .int) (by decide +kernel) rfl rfl (Nat.le_of_ble_eq_true rfl) hdg (fun H1 locs1 hG1 => kk _ H1 locs1 (IP.upd (cell2 := cellC cI cT q kp Wn made fl num rfs root own tad trm tpl wlk ord met msz x mend pnx pen st coll mins movd) hC 6 (Or.inl (by decide)) (fun i hi hn => by rcases i with _|_|_|_|_|_|_|_|_|i <;> first | rfl | exact absurd rfl hn)) hG1)
theorem cg_RX7_30 (S : CallFix p m c cc nL s args wsL RX7) (hK : va_K (dC, dI) vwCl (tyL cI cZ cT) s) (hG : mG (dC, dI) vwCl A H0 w H locs) (hC : CW cI cT q kp Wn made fl num rfs root own tad trm tpl wlk ord met msz cur mend pnx pen st coll mins movd w) (hdg : decode cc pc = .ok (.getfield 30, 3)) (kk : W p l e R s m args below meth c H locs cells slots Q (F0 m (pc + 3) ls (.int (nI mend) :: rest))) : W p l e R s m args below meth c H locs cells slots Q (F0 m pc ls (.ref (q 6) :: rest)) :=
  mw_get S inlX7 hK hG hC.obj7 rfl 3 (by decide) in_97 (fun _ h9 => h9) rfl hdg kk
theorem cp_RX7_30 (S : CallFix p m c cc nL s args wsL RX7) (hK : va_K (dC, dI) vwCl (tyL cI cZ cT) s) (hG : mG (dC, dI) vwCl A H0 w H locs) (hC : CW cI cT q kp Wn made fl num rfs root own tad trm tpl wlk ord met msz cur mend pnx pen st coll mins movd w) (x : Nat) (hdg : decode cc pc = .ok (.putfield 30, 3)) (kk : ∀ (w : mM) (H1 : Heap) (locs1 : List Loc), CW cI cT q kp Wn made fl num rfs root own tad trm tpl wlk ord met msz cur x pnx pen st coll mins movd w → mG (dC, dI) vwCl A H0 w H1 locs1 → W p l e R s m args below meth c H1 locs1 cells slots Q (F0 m (pc + 3) ls rest)) : W p l e R s m args below meth c H locs cells slots Q (F0 m pc ls (.int (nI x) :: .ref (q 6) :: rest)) :=
  mw_put S inlX7 tyX7 tyX7_ok nmX7 hK hG hC.obj7 rfl 3 (by decide) in_97 (fun _ h9 => h9) rfl (ty := .int) (by decide +kernel) rfl rfl (Nat.le_of_ble_eq_true rfl) hdg (fun H1 locs1 hG1 => kk _ H1 locs1 (IP.upd (cell2 := cellC cI cT q kp Wn made fl num rfs root own tad trm tpl wlk ord met msz cur x pnx pen st coll mins movd) hC 6 (Or.inl (by decide)) (fun i hi hn => by rcases i with _|_|_|_|_|_|_|_|_|i <;> first | rfl | exact absurd rfl hn)) hG1)
theorem cg_RX3_9 (S : CallFix p m c cc nL s args wsL RX3) (hK : va_K (dC, dI) vwCl (tyL cI cZ cT) s) (hG : mG (dC, dI) vwCl A H0 w H locs) (hC : CW cI cT q kp Wn made fl num rfs root own tad trm tpl wlk ord met msz cur mend pnx pen st coll mins movd w) (hk : kp ≠ 0) (hdg : decode cc pc = .ok (.getfield 9, 3)) (kk : W p l e R s m args below meth c H locs cells slots Q (F0 m (pc + 3) ls (.int (nI pnx) :: rest))) : W p l e R s m args below meth c H locs cells slots Q (F0 m pc ls (.ref (q 8) :: rest)) :=
  mw_get S inlX3 hK hG (hC.obj3 hk) rfl 0 (by decide) in_103 (fun _ h9 => h9) rfl hdg kk
theorem cp_RX3_9 (S : CallFix p m c cc nL s args wsL RX3) (hK : va_K (dC, dI) vwCl (tyL cI cZ cT) s) (hG : mG (dC, dI) vwCl A H0 w H locs) (hC : CW cI cT q kp Wn made fl num rfs root own tad trm tpl wlk ord met msz cur mend pnx pen st coll mins movd w) (hk : kp ≠ 0) (x : Nat) (hdg : decode cc pc = .ok (.putfield 9, 3)) (kk : ∀ (w : mM) (H1 : Heap) (locs1 : List Loc), CW cI cT q kp Wn made fl num rfs root own tad trm tpl wlk ord met msz cur mend x pen st coll mins movd w → mG (dC, dI) vwCl A H0 w H1 locs1 → W p l e R s m args below meth c H1 locs1 cells slots Q (F0 m (pc + 3) ls rest)) : W p l e R s m args below meth c H locs cells slots Q (F0 m pc ls (.int (nI x) :: .ref (q 8) :: rest)) :=
  mw_put S inlX3 tyX3 tyX3_ok nmX3 hK hG (hC.obj3 hk) rfl 0 (by decide) in_103 (fun _ h9 => h9) rfl (ty := .int) (by decide +kernel) rfl rfl (Nat.le_of_ble_eq_true rfl) hdg (fun H1 locs1 hG1 => kk _ H1 locs1 (IP.upd (cell2 := cellC cI cT q kp Wn made fl num rfs root own tad trm tpl wlk ord met msz cur mend x pen st coll mins movd) hC 8 (Or.inr (Or.inl ⟨rfl, hk⟩)) (fun i hi hn => by rcases i with _|_|_|_|_|_|_|_|_|i <;> first | rfl | exact absurd rfl hn)) hG1)
theorem cg_RX3_15 (S : CallFix p m c cc nL s args wsL RX3) (hK : va_K (dC, dI) vwCl (tyL cI cZ cT) s) (hG : mG (dC, dI) vwCl A H0 w H locs) (hC : CW cI cT q kp Wn made fl num rfs root own tad trm tpl wlk ord met msz cur mend pnx pen st coll mins movd w) (hk : kp ≠ 0) (hdg : decode cc pc = .ok (.getfield 15, 3)) (kk : W p l e R s m args below meth c H locs cells slots Q (F0 m (pc + 3) ls (.int (nI pen) :: rest))) : W p l e R s m args below meth c H locs cells slots Q (F0 m pc ls (.ref (q 8) :: rest)) :=
  mw_get S inlX3 hK hG (hC.obj3 hk) rfl 1 (by decide) in_104 (fun _ h9 => h9) rfl hdg kk
theorem cp_RX3_15 (S : CallFix p m c cc nL s args wsL RX3) (hK : va_K (dC, dI) vwCl (tyL cI cZ cT) s) (hG : mG (dC, dI) vwCl A H0 w H locs) (hC : CW cI cT q kp Wn made fl num rfs root own tad trm tpl wlk ord met msz cur mend pnx pen st coll mins movd w) (hk : kp ≠ 0) (x : Nat) (hdg : decode cc pc = .ok (.putfield 15, 3)) (kk : ∀ (w : mM) (H1 : Heap) (locs1 : List Loc), CW cI cT q kp Wn made fl num rfs root own tad trm tpl wlk ord met msz cur mend pnx x st coll mins movd w → mG (dC, dI) vwCl A H0 w H1 locs1 → W p l e R s m args below meth c H1 locs1 cells slots Q (F0 m (pc + 3) ls rest)) : W p l e R s m args below meth c H locs cells slots Q (F0 m pc ls (.int (nI x) :: .ref (q 8) :: rest)) :=
  mw_put S inlX3 tyX3 tyX3_ok nmX3 hK hG (hC.obj3 hk) rfl 1 (by decide) in_104 (fun _ h9 => h9) rfl (ty := .int) (by decide +kernel) rfl rfl (Nat.le_of_ble_eq_true rfl) hdg (fun H1 locs1 hG1 => kk _ H1 locs1 (IP.upd (cell2 := cellC cI cT q kp Wn made fl num rfs root own tad trm tpl wlk ord met msz cur mend pnx x st coll mins movd) hC 8 (Or.inr (Or.inl ⟨rfl, hk⟩)) (fun i hi hn => by rcases i with _|_|_|_|_|_|_|_|_|i <;> first | rfl | exact absurd rfl hn)) hG1)
theorem cg_RX0_15 (S : CallFix p m c cc nL s args wsL RX0) (hK : va_K (dC, dI) vwCl (tyL cI cZ cT) s) (hG : mG (dC, dI) vwCl A H0 w H locs) (hC : CW cI cT q kp Wn made fl num rfs root own tad trm tpl wlk ord met msz cur mend pnx pen st coll mins movd w) (hk : kp = 2) (hdg : decode cc pc = .ok (.getfield 15, 3)) (kk : W p l e R s m args below meth c H locs cells slots Q (F0 m (pc + 3) ls (.int (nI (Wn / 4)) :: rest))) : W p l e R s m args below meth c H locs cells slots Q (F0 m pc ls (.ref (q 5) :: rest)) :=
  mw_get S inlX0 hK hG (hC.obj0 hk) rfl 6 (by decide) in_108 (fun _ h9 => h9) rfl hdg kk
theorem cg_RX0_26 (S : CallFix p m c cc nL s args wsL RX0) (hK : va_K (dC, dI) vwCl (tyL cI cZ cT) s) (hG : mG (dC, dI) vwCl A H0 w H locs) (hC : CW cI cT q kp Wn made fl num rfs root own tad trm tpl wlk ord met msz cur mend pnx pen st coll mins movd w) (hk : kp = 2) (hdg : decode cc pc = .ok (.getfield 26, 3)) (kk : W p l e R s m args below meth c H locs cells slots Q (F0 m (pc + 3) ls (.ref (q 8) :: rest))) : W p l e R s m args below meth c H locs cells slots Q (F0 m pc ls (.ref (q 5) :: rest)) :=
  mw_get S inlX0 hK hG (hC.obj0 hk) rfl 7 (by decide) in_110 (fun _ h9 => h9) rfl hdg kk
theorem cg_RX9_66 (S : CallFix p m c cc nL s args wsL RX9) (hK : va_K (dC, dI) vwCl (tyL cI cZ cT) s) (hG : mG (dC, dI) vwCl A H0 w H locs) (hC : CW cI cT q kp Wn made fl num rfs root own tad trm tpl wlk ord met msz cur mend pnx pen st coll mins movd w) (k : Nat) (hk : k < made) (hdg : decode cc pc = .ok (.getfield 66, 3)) (kk : W p l e R s m args below meth c H locs cells slots Q (F0 m (pc + 3) ls (.int (nI k) :: rest))) : W p l e R s m args below meth c H locs cells slots Q (F0 m pc ls (.ref (tq q k) :: rest)) :=
  mw_get S inlX6 hK hG (hC.th hk) rfl 0 (by decide) in_143 (fun _ h9 => h9) rfl hdg kk
theorem cg_RX5_7 (S : CallFix p m c cc nL s args wsL RX5) (hK : va_K (dC, dI) vwCl (tyL cI cZ cT) s) (hG : mG (dC, dI) vwCl A H0 w H locs) (hC : CW cI cT q kp Wn made fl num rfs root own tad trm tpl wlk ord met msz cur mend pnx pen st coll mins movd w) (hk : kp = 0) (hdg : decode cc pc = .ok (.getfield 7, 3)) (kk : W p l e R s m args below meth c H locs cells slots Q (F0 m (pc + 3) ls (.ref (q 1) :: rest))) : W p l e R s m args below meth c H locs cells slots Q (F0 m pc ls (.ref (q 5) :: rest)) :=
  mw_get S inlX5 hK hG (hC.obj5 hk) rfl 0 (by decide) in_164 (u_same (S.2.2.2.2 _ in_165)) rfl hdg kk
theorem cg_RX0_55 (S : CallFix p m c cc nL s args wsL RX0) (hK : va_K (dC, dI) vwCl (tyL cI cZ cT) s) (hG : mG (dC, dI) vwCl A H0 w H locs) (hC : CW cI cT q kp Wn made fl num rfs root own tad trm tpl wlk ord met msz cur mend pnx pen st coll mins movd w) (hk : kp = 2) (hdg : decode cc pc = .ok (.getfield 55, 3)) (kk : W p l e R s m args below meth c H locs cells slots Q (F0 m (pc + 3) ls (.ref (q 6) :: rest))) : W p l e R s m args below meth c H locs cells slots Q (F0 m pc ls (.ref (q 5) :: rest)) :=
  mw_get S inlX0 hK hG (hC.obj0 hk) rfl 2 (by decide) in_179 (u_same (S.2.2.2.2 _ in_180)) rfl hdg kk
theorem cg_RX0_65 (S : CallFix p m c cc nL s args wsL RX0) (hK : va_K (dC, dI) vwCl (tyL cI cZ cT) s) (hG : mG (dC, dI) vwCl A H0 w H locs) (hC : CW cI cT q kp Wn made fl num rfs root own tad trm tpl wlk ord met msz cur mend pnx pen st coll mins movd w) (hk : kp = 2) (hdg : decode cc pc = .ok (.getfield 65, 3)) (kk : W p l e R s m args below meth c H locs cells slots Q (F0 m (pc + 3) ls (.ref (q 3) :: rest))) : W p l e R s m args below meth c H locs cells slots Q (F0 m pc ls (.ref (q 5) :: rest)) :=
  mw_get S inlX0 hK hG (hC.obj0 hk) rfl 1 (by decide) in_181 (u_same (S.2.2.2.2 _ in_182)) rfl hdg kk
theorem cg_RX0_88 (S : CallFix p m c cc nL s args wsL RX0) (hK : va_K (dC, dI) vwCl (tyL cI cZ cT) s) (hG : mG (dC, dI) vwCl A H0 w H locs) (hC : CW cI cT q kp Wn made fl num rfs root own tad trm tpl wlk ord met msz cur mend pnx pen st coll mins movd w) (hk : kp = 2) (hdg : decode cc pc = .ok (.getfield 88, 3)) (kk : W p l e R s m args below meth c H locs cells slots Q (F0 m (pc + 3) ls (.ref (q 1) :: rest))) : W p l e R s m args below meth c H locs cells slots Q (F0 m pc ls (.ref (q 5) :: rest)) :=
  mw_get S inlX0 hK hG (hC.obj0 hk) rfl 0 (by decide) in_183 (u_same (S.2.2.2.2 _ in_184)) rfl hdg kk
theorem cg_RX0_108 (S : CallFix p m c cc nL s args wsL RX0) (hK : va_K (dC, dI) vwCl (tyL cI cZ cT) s) (hG : mG (dC, dI) vwCl A H0 w H locs) (hC : CW cI cT q kp Wn made fl num rfs root own tad trm tpl wlk ord met msz cur mend pnx pen st coll mins movd w) (hk : kp = 2) (hdg : decode cc pc = .ok (.getfield 108, 3)) (kk : W p l e R s m args below meth c H locs cells slots Q (F0 m (pc + 3) ls (.int (nI mins) :: rest))) : W p l e R s m args below meth c H locs cells slots Q (F0 m pc ls (.ref (q 5) :: rest)) :=
  mw_get S inlX0 hK hG (hC.obj0 hk) rfl 4 (by decide) in_185 (u_same (S.2.2.2.2 _ in_186)) rfl hdg kk
theorem cp_RX0_108 (S : CallFix p m c cc nL s args wsL RX0) (hK : va_K (dC, dI) vwCl (tyL cI cZ cT) s) (hG : mG (dC, dI) vwCl A H0 w H locs) (hC : CW cI cT q kp Wn made fl num rfs root own tad trm tpl wlk ord met msz cur mend pnx pen st coll mins movd w) (hk : kp = 2) (x : Nat) (hdg : decode cc pc = .ok (.putfield 108, 3)) (kk : ∀ (w : mM) (H1 : Heap) (locs1 : List Loc), CW cI cT q kp Wn made fl num rfs root own tad trm tpl wlk ord met msz cur mend pnx pen st coll x movd w → mG (dC, dI) vwCl A H0 w H1 locs1 → W p l e R s m args below meth c H1 locs1 cells slots Q (F0 m (pc + 3) ls rest)) : W p l e R s m args below meth c H locs cells slots Q (F0 m pc ls (.int (nI x) :: .ref (q 5) :: rest)) := by
  subst hk
  exact mw_put S inlX0 tyX0 tyX0_ok nmX0 hK hG hC.kpr rfl 4 (by decide) in_185 (u_same (S.2.2.2.2 _ in_186)) rfl (ty := .int) (by decide +kernel) rfl rfl (Nat.le_of_ble_eq_true rfl) hdg (fun H1 locs1 hG1 => kk _ H1 locs1 (IP.upd (cell2 := cellC cI cT q 2 Wn made fl num rfs root own tad trm tpl wlk ord met msz cur mend pnx pen st coll x movd) hC 5 (Or.inl (by decide)) (fun i hi hn => by rcases i with _|_|_|_|_|_|_|_|_|i <;> first | rfl | exact absurd rfl hn)) hG1)
theorem cg_RX7_33 (S : CallFix p m c cc nL s args wsL RX7) (hK : va_K (dC, dI) vwCl (tyL cI cZ cT) s) (hG : mG (dC, dI) vwCl A H0 w H locs) (hC : CW cI cT q kp Wn made fl num rfs root own tad trm tpl wlk ord met msz cur mend pnx pen st coll mins movd w) (k : Nat) (hk : k < made) (hdg : decode cc pc = .ok (.getfield 33, 3)) (kk : W p l e R s m args below meth c H locs cells slots Q (F0 m (pc + 3) ls (.int (nI (tad k)) :: rest))) : W p l e R s m args below meth c H locs cells slots Q (F0 m pc ls (.ref (tq q k) :: rest)) :=
  mw_get S inlX6 hK hG (hC.th hk) rfl 3 (by decide) in_204 (fun _ h9 => h9) rfl hdg kk
theorem cp_RX7_33 (S : CallFix p m c cc nL s args wsL RX7) (hK : va_K (dC, dI) vwCl (tyL cI cZ cT) s) (hG : mG (dC, dI) vwCl A H0 w H locs) (hC : CW cI cT q kp Wn made fl num rfs root own tad trm tpl wlk ord met msz cur mend pnx pen st coll mins movd w) (k : Nat) (hk : k < made) (x : Nat) (hdg : decode cc pc = .ok (.putfield 33, 3)) (kk : ∀ (w : mM) (H1 : Heap) (locs1 : List Loc), CW cI cT q kp Wn made fl num rfs root own (va_up tad k x) trm tpl wlk ord met msz cur mend pnx pen st coll mins movd w → mG (dC, dI) vwCl A H0 w H1 locs1 → W p l e R s m args below meth c H1 locs1 cells slots Q (F0 m (pc + 3) ls rest)) : W p l e R s m args below meth c H locs cells slots Q (F0 m pc ls (.int (nI x) :: .ref (tq q k) :: rest)) := by
  have h2 : cellC cI cT q kp Wn made fl num rfs root own (va_up tad k x) trm tpl wlk ord met msz cur mend pnx pen st coll mins movd (3 * k + 9) = .inr (5, [.int (nI k), .ref (q (3 * k + 10)), .ref (q (3 * k + 11)), .int (nI x), .int (bI (trm k)), .int (nI (tpl k)), .int (nI (wlk k)), .int (nI (ord k))]) := by
    have h1 : cellC cI cT q kp Wn made fl num rfs root own (va_up tad k x) trm tpl wlk ord met msz cur mend pnx pen st coll mins movd (3 * k + 9) = thC cI cT q fl num rfs (va_up tad k x) trm tpl wlk ord (3 * k % 3) (3 * k / 3) := rfl
    rw [h1, show 3 * k % 3 = 0 by omega, show 3 * k / 3 = k by omega]
    simp only [thC, va_up, if_true]
  refine mw_put S inlX6 tyX6 tyX6_ok nmX6 hK hG (hC.th hk) rfl 3 (by decide) in_204 (fun _ h9 => h9) rfl (ty := .int) (by decide +kernel) rfl rfl (Nat.le_of_ble_eq_true rfl) hdg (fun H1 locs1 hG1 => kk _ H1 locs1 (IP.upd (cell2 := cellC cI cT q kp Wn made fl num rfs root own (va_up tad k x) trm tpl wlk ord met msz cur mend pnx pen st coll mins movd) hC (3 * k + 9) (domC_t (r := 0) hk (by decide)) (fun i hi hn => ?_)) ?_)
  · rcases i with _|_|_|_|_|_|_|_|_|i <;> first | rfl | skip
    show thC cI cT q fl num rfs (va_up tad k x) trm tpl wlk ord (i % 3) (i / 3) = thC cI cT q fl num rfs tad trm tpl wlk ord (i % 3) (i / 3)
    rcases (show i % 3 = 0 ∨ i % 3 = 1 ∨ i % 3 = 2 by omega) with h | h | h
    · rw [h]
      have hne : i / 3 ≠ k := fun z => hn (by omega)
      simp only [thC, va_up, if_neg hne]
    · rw [h]; rfl
    · rw [h]; rfl
  · rw [h2]; exact hG1
theorem cg_RX7_36 (S : CallFix p m c cc nL s args wsL RX7) (hK : va_K (dC, dI) vwCl (tyL cI cZ cT) s) (hG : mG (dC, dI) vwCl A H0 w H locs) (hC : CW cI cT q kp Wn made fl num rfs root own tad trm tpl wlk ord met msz cur mend pnx pen st coll mins movd w) (k : Nat) (hk : k < made) (hdg : decode cc pc = .ok (.getfield 36, 3)) (kk : W p l e R s m args below meth c H locs cells slots Q (F0 m (pc + 3) ls (.int (nI (wlk k)) :: rest))) : W p l e R s m args below meth c H locs cells slots Q (F0 m pc ls (.ref (tq q k) :: rest)) :=
  mw_get S inlX6 hK hG (hC.th hk) rfl 6 (by decide) in_205 (fun _ h9 => h9) rfl hdg kk
theorem cp_RX7_36 (S : CallFix p m c cc nL s args wsL RX7) (hK : va_K (dC, dI) vwCl (tyL cI cZ cT) s) (hG : mG (dC, dI) vwCl A H0 w H locs) (hC : CW cI cT q kp Wn made fl num rfs root own tad trm tpl wlk ord met msz cur mend pnx pen st coll mins movd w) (k : Nat) (hk : k < made) (x : Nat) (hdg : decode cc pc = .ok (.putfield 36, 3)) (kk : ∀ (w : mM) (H1 : Heap) (locs1 : List Loc), CW cI cT q kp Wn made fl num rfs root own tad trm tpl (va_up wlk k x) ord met msz cur mend pnx pen st coll mins movd w → mG (dC, dI) vwCl A H0 w H1 locs1 → W p l e R s m args below meth c H1 locs1 cells slots Q (F0 m (pc + 3) ls rest)) : W p l e R s m args below meth c H locs cells slots Q (F0 m pc ls (.int (nI x) :: .ref (tq q k) :: rest)) := by
  have h2 : cellC cI cT q kp Wn made fl num rfs root own tad trm tpl (va_up wlk k x) ord met msz cur mend pnx pen st coll mins movd (3 * k + 9) = .inr (5, [.int (nI k), .ref (q (3 * k + 10)), .ref (q (3 * k + 11)), .int (nI (tad k)), .int (bI (trm k)), .int (nI (tpl k)), .int (nI x), .int (nI (ord k))]) := by
    have h1 : cellC cI cT q kp Wn made fl num rfs root own tad trm tpl (va_up wlk k x) ord met msz cur mend pnx pen st coll mins movd (3 * k + 9) = thC cI cT q fl num rfs tad trm tpl (va_up wlk k x) ord (3 * k % 3) (3 * k / 3) := rfl
    rw [h1, show 3 * k % 3 = 0 by omega, show 3 * k / 3 = k by omega]
    simp only [thC, va_up, if_true]
  refine mw_put S inlX6 tyX6 tyX6_ok nmX6 hK hG (hC.th hk) rfl 6 (by decide) in_205 (fun _ h9 => h9) rfl (ty := .int) (by decide +kernel) rfl rfl (Nat.le_of_ble_eq_true rfl) hdg (fun H1 locs1 hG1 => kk _ H1 locs1 (IP.upd (cell2 := cellC cI cT q kp Wn made fl num rfs root own tad trm tpl (va_up wlk k x) ord met msz cur mend pnx pen st coll mins movd) hC (3 * k + 9) (domC_t (r := 0) hk (by decide)) (fun i hi hn => ?_)) ?_)
  · rcases i with _|_|_|_|_|_|_|_|_|i <;> first | rfl | skip
    show thC cI cT q fl num rfs tad trm tpl (va_up wlk k x) ord (i % 3) (i / 3) = thC cI cT q fl num rfs tad trm tpl wlk ord (i % 3) (i / 3)
    rcases (show i % 3 = 0 ∨ i % 3 = 1 ∨ i % 3 = 2 by omega) with h | h | h
    · rw [h]
      have hne : i / 3 ≠ k := fun z => hn (by omega)
      simp only [thC, va_up, if_neg hne]
    · rw [h]; rfl
    · rw [h]; rfl
  · rw [h2]; exact hG1
theorem cg_RX7_39 (S : CallFix p m c cc nL s args wsL RX7) (hK : va_K (dC, dI) vwCl (tyL cI cZ cT) s) (hG : mG (dC, dI) vwCl A H0 w H locs) (hC : CW cI cT q kp Wn made fl num rfs root own tad trm tpl wlk ord met msz cur mend pnx pen st coll mins movd w) (k : Nat) (hk : k < made) (hdg : decode cc pc = .ok (.getfield 39, 3)) (kk : W p l e R s m args below meth c H locs cells slots Q (F0 m (pc + 3) ls (.int (nI (ord k)) :: rest))) : W p l e R s m args below meth c H locs cells slots Q (F0 m pc ls (.ref (tq q k) :: rest)) :=
  mw_get S inlX6 hK hG (hC.th hk) rfl 7 (by decide) in_206 (fun _ h9 => h9) rfl hdg kk
theorem cp_RX7_39 (S : CallFix p m c cc nL s args wsL RX7) (hK : va_K (dC, dI) vwCl (tyL cI cZ cT) s) (hG : mG (dC, dI) vwCl A H0 w H locs) (hC : CW cI cT q kp Wn made fl num rfs root own tad trm tpl wlk ord met msz cur mend pnx pen st coll mins movd w) (k : Nat) (hk : k < made) (x : Nat) (hdg : decode cc pc = .ok (.putfield 39, 3)) (kk : ∀ (w : mM) (H1 : Heap) (locs1 : List Loc), CW cI cT q kp Wn made fl num rfs root own tad trm tpl wlk (va_up ord k x) met msz cur mend pnx pen st coll mins movd w → mG (dC, dI) vwCl A H0 w H1 locs1 → W p l e R s m args below meth c H1 locs1 cells slots Q (F0 m (pc + 3) ls rest)) : W p l e R s m args below meth c H locs cells slots Q (F0 m pc ls (.int (nI x) :: .ref (tq q k) :: rest)) := by
  have h2 : cellC cI cT q kp Wn made fl num rfs root own tad trm tpl wlk (va_up ord k x) met msz cur mend pnx pen st coll mins movd (3 * k + 9) = .inr (5, [.int (nI k), .ref (q (3 * k + 10)), .ref (q (3 * k + 11)), .int (nI (tad k)), .int (bI (trm k)), .int (nI (tpl k)), .int (nI (wlk k)), .int (nI x)]) := by
    have h1 : cellC cI cT q kp Wn made fl num rfs root own tad trm tpl wlk (va_up ord k x) met msz cur mend pnx pen st coll mins movd (3 * k + 9) = thC cI cT q fl num rfs tad trm tpl wlk (va_up ord k x) (3 * k % 3) (3 * k / 3) := rfl
    rw [h1, show 3 * k % 3 = 0 by omega, show 3 * k / 3 = k by omega]
    simp only [thC, va_up, if_true]
  refine mw_put S inlX6 tyX6 tyX6_ok nmX6 hK hG (hC.th hk) rfl 7 (by decide) in_206 (fun _ h9 => h9) rfl (ty := .int) (by decide +kernel) rfl rfl (Nat.le_of_ble_eq_true rfl) hdg (fun H1 locs1 hG1 => kk _ H1 locs1 (IP.upd (cell2 := cellC cI cT q kp Wn made fl num rfs root own tad trm tpl wlk (va_up ord k x) met msz cur mend pnx pen st coll mins movd) hC (3 * k + 9) (domC_t (r := 0) hk (by decide)) (fun i hi hn => ?_)) ?_)
  · rcases i with _|_|_|_|_|_|_|_|_|i <;> first | rfl | skip
    show thC cI cT q fl num rfs tad trm tpl wlk (va_up ord k x) (i % 3) (i / 3) = thC cI cT q fl num rfs tad trm tpl wlk ord (i % 3) (i / 3)
    rcases (show i % 3 = 0 ∨ i % 3 = 1 ∨ i % 3 = 2 by omega) with h | h | h
    · rw [h]
      have hne : i / 3 ≠ k := fun z => hn (by omega)
      simp only [thC, va_up, if_neg hne]
    · rw [h]; rfl
    · rw [h]; rfl
  · rw [h2]; exact hG1
theorem cg_RX0_115 (S : CallFix p m c cc nL s args wsL RX0) (hK : va_K (dC, dI) vwCl (tyL cI cZ cT) s) (hG : mG (dC, dI) vwCl A H0 w H locs) (hC : CW cI cT q kp Wn made fl num rfs root own tad trm tpl wlk ord met msz cur mend pnx pen st coll mins movd w) (k : Nat) (hk : k < made) (hdg : decode cc pc = .ok (.getfield 115, 3)) (kk : W p l e R s m args below meth c H locs cells slots Q (F0 m (pc + 3) ls (.int (bI (trm k)) :: rest))) : W p l e R s m args below meth c H locs cells slots Q (F0 m pc ls (.ref (tq q k) :: rest)) :=
  mw_get S inlX6 hK hG (hC.th hk) rfl 4 (by decide) in_211 (fun _ h9 => h9) rfl hdg kk
theorem cp_RX0_115 (S : CallFix p m c cc nL s args wsL RX0) (hK : va_K (dC, dI) vwCl (tyL cI cZ cT) s) (hG : mG (dC, dI) vwCl A H0 w H locs) (hC : CW cI cT q kp Wn made fl num rfs root own tad trm tpl wlk ord met msz cur mend pnx pen st coll mins movd w) (k : Nat) (hk : k < made) (x : Bool) (hdg : decode cc pc = .ok (.putfield 115, 3)) (kk : ∀ (w : mM) (H1 : Heap) (locs1 : List Loc), CW cI cT q kp Wn made fl num rfs root own tad (va_up trm k x) tpl wlk ord met msz cur mend pnx pen st coll mins movd w → mG (dC, dI) vwCl A H0 w H1 locs1 → W p l e R s m args below meth c H1 locs1 cells slots Q (F0 m (pc + 3) ls rest)) : W p l e R s m args below meth c H locs cells slots Q (F0 m pc ls (.int (bI x) :: .ref (tq q k) :: rest)) := by
  have h2 : cellC cI cT q kp Wn made fl num rfs root own tad (va_up trm k x) tpl wlk ord met msz cur mend pnx pen st coll mins movd (3 * k + 9) = .inr (5, [.int (nI k), .ref (q (3 * k + 10)), .ref (q (3 * k + 11)), .int (nI (tad k)), .int (bI x), .int (nI (tpl k)), .int (nI (wlk k)), .int (nI (ord k))]) := by
    have h1 : cellC cI cT q kp Wn made fl num rfs root own tad (va_up trm k x) tpl wlk ord met msz cur mend pnx pen st coll mins movd (3 * k + 9) = thC cI cT q fl num rfs tad (va_up trm k x) tpl wlk ord (3 * k % 3) (3 * k / 3) := rfl
    rw [h1, show 3 * k % 3 = 0 by omega, show 3 * k / 3 = k by omega]
    simp only [thC, va_up, if_true]
  refine mw_put S inlX6 tyX6 tyX6_ok nmX6 hK hG (hC.th hk) rfl 4 (by decide) in_211 (fun _ h9 => h9) rfl (ty := .boolean) (by decide +kernel) (bI_nar x) (bI_fit x) (Nat.le_of_ble_eq_true rfl) hdg (fun H1 locs1 hG1 => kk _ H1 locs1 (IP.upd (cell2 := cellC cI cT q kp Wn made fl num rfs root own tad (va_up trm k x) tpl wlk ord met msz cur mend pnx pen st coll mins movd) hC (3 * k + 9) (domC_t (r := 0) hk (by decide)) (fun i hi hn => ?_)) ?_)
  · rcases i with _|_|_|_|_|_|_|_|_|i <;> first | rfl | skip
    show thC cI cT q fl num rfs tad (va_up trm k x) tpl wlk ord (i % 3) (i / 3) = thC cI cT q fl num rfs tad trm tpl wlk ord (i % 3) (i / 3)
    rcases (show i % 3 = 0 ∨ i % 3 = 1 ∨ i % 3 = 2 by omega) with h | h | h
    · rw [h]
      have hne : i / 3 ≠ k := fun z => hn (by omega)
      simp only [thC, va_up, if_neg hne]
    · rw [h]; rfl
    · rw [h]; rfl
  · rw [h2]; exact hG1
theorem cg_RX8_27 (S : CallFix p m c cc nL s args wsL RX8) (hK : va_K (dC, dI) vwCl (tyL cI cZ cT) s) (hG : mG (dC, dI) vwCl A H0 w H locs) (hC : CW cI cT q kp Wn made fl num rfs root own tad trm tpl wlk ord met msz cur mend pnx pen st coll mins movd w) (k : Nat) (hk : k < made) (hdg : decode cc pc = .ok (.getfield 27, 3)) (kk : W p l e R s m args below meth c H locs cells slots Q (F0 m (pc + 3) ls (.int (nI (tad k)) :: rest))) : W p l e R s m args below meth c H locs cells slots Q (F0 m pc ls (.ref (tq q k) :: rest)) :=
  mw_get S inlX6 hK hG (hC.th hk) rfl 3 (by decide) in_216 (fun _ h9 => h9) rfl hdg kk
theorem cp_RX8_27 (S : CallFix p m c cc nL s args wsL RX8) (hK : va_K (dC, dI) vwCl (tyL cI cZ cT) s) (hG : mG (dC, dI) vwCl A H0 w H locs) (hC : CW cI cT q kp Wn made fl num rfs root own tad trm tpl wlk ord met msz cur mend pnx pen st coll mins movd w) (k : Nat) (hk : k < made) (x : Nat) (hdg : decode cc pc = .ok (.putfield 27, 3)) (kk : ∀ (w : mM) (H1 : Heap) (locs1 : List Loc), CW cI cT q kp Wn made fl num rfs root own (va_up tad k x) trm tpl wlk ord met msz cur mend pnx pen st coll mins movd w → mG (dC, dI) vwCl A H0 w H1 locs1 → W p l e R s m args below meth c H1 locs1 cells slots Q (F0 m (pc + 3) ls rest)) : W p l e R s m args below meth c H locs cells slots Q (F0 m pc ls (.int (nI x) :: .ref (tq q k) :: rest)) := by
  have h2 : cellC cI cT q kp Wn made fl num rfs root own (va_up tad k x) trm tpl wlk ord met msz cur mend pnx pen st coll mins movd (3 * k + 9) = .inr (5, [.int (nI k), .ref (q (3 * k + 10)), .ref (q (3 * k + 11)), .int (nI x), .int (bI (trm k)), .int (nI (tpl k)), .int (nI (wlk k)), .int (nI (ord k))]) := by
    have h1 : cellC cI cT q kp Wn made fl num rfs root own (va_up tad k x) trm tpl wlk ord met msz cur mend pnx pen st coll mins movd (3 * k + 9) = thC cI cT q fl num rfs (va_up tad k x) trm tpl wlk ord (3 * k % 3) (3 * k / 3) := rfl
    rw [h1, show 3 * k % 3 = 0 by omega, show 3 * k / 3 = k by omega]
    simp only [thC, va_up, if_true]
  refine mw_put S inlX6 tyX6 tyX6_ok nmX6 hK hG (hC.th hk) rfl 3 (by decide) in_216 (fun _ h9 => h9) rfl (ty := .int) (by decide +kernel) rfl rfl (Nat.le_of_ble_eq_true rfl) hdg (fun H1 locs1 hG1 => kk _ H1 locs1 (IP.upd (cell2 := cellC cI cT q kp Wn made fl num rfs root own (va_up tad k x) trm tpl wlk ord met msz cur mend pnx pen st coll mins movd) hC (3 * k + 9) (domC_t (r := 0) hk (by decide)) (fun i hi hn => ?_)) ?_)
  · rcases i with _|_|_|_|_|_|_|_|_|i <;> first | rfl | skip
    show thC cI cT q fl num rfs (va_up tad k x) trm tpl wlk ord (i % 3) (i / 3) = thC cI cT q fl num rfs tad trm tpl wlk ord (i % 3) (i / 3)
    rcases (show i % 3 = 0 ∨ i % 3 = 1 ∨ i % 3 = 2 by omega) with h | h | h
    · rw [h]
      have hne : i / 3 ≠ k := fun z => hn (by omega)
      simp only [thC, va_up, if_neg hne]
    · rw [h]; rfl
    · rw [h]; rfl
  · rw [h2]; exact hG1
theorem cg_RX6_19 (S : CallFix p m c cc nL s args wsL RX6) (hK : va_K (dC, dI) vwCl (tyL cI cZ cT) s) (hG : mG (dC, dI) vwCl A H0 w H locs) (hC : CW cI cT q kp Wn made fl num rfs root own tad trm tpl wlk ord met msz cur mend pnx pen st coll mins movd w) (k : Nat) (hk : k < made) (hdg : decode cc pc = .ok (.getfield 19, 3)) (kk : W p l e R s m args below meth c H locs cells slots Q (F0 m (pc + 3) ls (.ref (q (3 * k + 10)) :: rest))) : W p l e R s m args below meth c H locs cells slots Q (F0 m pc ls (.ref (tq q k) :: rest)) :=
  mw_get S inlX6 hK hG (hC.th hk) rfl 1 (by decide) in_229 (fun _ h9 => h9) rfl hdg kk
theorem cg_RX6_23 (S : CallFix p m c cc nL s args wsL RX6) (hK : va_K (dC, dI) vwCl (tyL cI cZ cT) s) (hG : mG (dC, dI) vwCl A H0 w H locs) (hC : CW cI cT q kp Wn made fl num rfs root own tad trm tpl wlk ord met msz cur mend pnx pen st coll mins movd w) (k : Nat) (hk : k < made) (hdg : decode cc pc = .ok (.getfield 23, 3)) (kk : W p l e R s m args below meth c H locs cells slots Q (F0 m (pc + 3) ls (.ref (q (3 * k + 11)) :: rest))) : W p l e R s m args below meth c H locs cells slots Q (F0 m pc ls (.ref (tq q k) :: rest)) :=
  mw_get S inlX6 hK hG (hC.th hk) rfl 2 (by decide) in_234 (fun _ h9 => h9) rfl hdg kk
theorem cg_RX0_131 (S : CallFix p m c cc nL s args wsL RX0) (hK : va_K (dC, dI) vwCl (tyL cI cZ cT) s) (hG : mG (dC, dI) vwCl A H0 w H locs) (hC : CW cI cT q kp Wn made fl num rfs root own tad trm tpl wlk ord met msz cur mend pnx pen st coll mins movd w) (k : Nat) (hk : k < made) (hdg : decode cc pc = .ok (.getfield 131, 3)) (kk : W p l e R s m args below meth c H locs cells slots Q (F0 m (pc + 3) ls (.int (nI (tpl k)) :: rest))) : W p l e R s m args below meth c H locs cells slots Q (F0 m pc ls (.ref (tq q k) :: rest)) :=
  mw_get S inlX6 hK hG (hC.th hk) rfl 5 (by decide) in_244 (fun _ h9 => h9) rfl hdg kk
theorem cp_RX0_131 (S : CallFix p m c cc nL s args wsL RX0) (hK : va_K (dC, dI) vwCl (tyL cI cZ cT) s) (hG : mG (dC, dI) vwCl A H0 w H locs) (hC : CW cI cT q kp Wn made fl num rfs root own tad trm tpl wlk ord met msz cur mend pnx pen st coll mins movd w) (k : Nat) (hk : k < made) (x : Nat) (hdg : decode cc pc = .ok (.putfield 131, 3)) (kk : ∀ (w : mM) (H1 : Heap) (locs1 : List Loc), CW cI cT q kp Wn made fl num rfs root own tad trm (va_up tpl k x) wlk ord met msz cur mend pnx pen st coll mins movd w → mG (dC, dI) vwCl A H0 w H1 locs1 → W p l e R s m args below meth c H1 locs1 cells slots Q (F0 m (pc + 3) ls rest)) : W p l e R s m args below meth c H locs cells slots Q (F0 m pc ls (.int (nI x) :: .ref (tq q k) :: rest)) := by
  have h2 : cellC cI cT q kp Wn made fl num rfs root own tad trm (va_up tpl k x) wlk ord met msz cur mend pnx pen st coll mins movd (3 * k + 9) = .inr (5, [.int (nI k), .ref (q (3 * k + 10)), .ref (q (3 * k + 11)), .int (nI (tad k)), .int (bI (trm k)), .int (nI x), .int (nI (wlk k)), .int (nI (ord k))]) := by
    have h1 : cellC cI cT q kp Wn made fl num rfs root own tad trm (va_up tpl k x) wlk ord met msz cur mend pnx pen st coll mins movd (3 * k + 9) = thC cI cT q fl num rfs tad trm (va_up tpl k x) wlk ord (3 * k % 3) (3 * k / 3) := rfl
    rw [h1, show 3 * k % 3 = 0 by omega, show 3 * k / 3 = k by omega]
    simp only [thC, va_up, if_true]
  refine mw_put S inlX6 tyX6 tyX6_ok nmX6 hK hG (hC.th hk) rfl 5 (by decide) in_244 (fun _ h9 => h9) rfl (ty := .int) (by decide +kernel) rfl rfl (Nat.le_of_ble_eq_true rfl) hdg (fun H1 locs1 hG1 => kk _ H1 locs1 (IP.upd (cell2 := cellC cI cT q kp Wn made fl num rfs root own tad trm (va_up tpl k x) wlk ord met msz cur mend pnx pen st coll mins movd) hC (3 * k + 9) (domC_t (r := 0) hk (by decide)) (fun i hi hn => ?_)) ?_)
  · rcases i with _|_|_|_|_|_|_|_|_|i <;> first | rfl | skip
    show thC cI cT q fl num rfs tad trm (va_up tpl k x) wlk ord (i % 3) (i / 3) = thC cI cT q fl num rfs tad trm tpl wlk ord (i % 3) (i / 3)
    rcases (show i % 3 = 0 ∨ i % 3 = 1 ∨ i % 3 = 2 by omega) with h | h | h
    · rw [h]
      have hne : i / 3 ≠ k := fun z => hn (by omega)
      simp only [thC, va_up, if_neg hne]
    · rw [h]; rfl
    · rw [h]; rfl
  · rw [h2]; exact hG1
theorem cg_RX0_40 (S : CallFix p m c cc nL s args wsL RX0) (hK : va_K (dC, dI) vwCl (tyL cI cZ cT) s) (hG : mG (dC, dI) vwCl A H0 w H locs) (hC : CW cI cT q kp Wn made fl num rfs root own tad trm tpl wlk ord met msz cur mend pnx pen st coll mins movd w) (k : Nat) (hk : k < made) (hdg : decode cc pc = .ok (.getfield 40, 3)) (kk : W p l e R s m args below meth c H locs cells slots Q (F0 m (pc + 3) ls (.int (nI (tad k)) :: rest))) : W p l e R s m args below meth c H locs cells slots Q (F0 m pc ls (.ref (tq q k) :: rest)) :=
  mw_get S inlX6 hK hG (hC.th hk) rfl 3 (by decide) in_276 (fun _ h9 => h9) rfl hdg kk
theorem cp_RX0_40 (S : CallFix p m c cc nL s args wsL RX0) (hK : va_K (dC, dI) vwCl (tyL cI cZ cT) s) (hG : mG (dC, dI) vwCl A H0 w H locs) (hC : CW cI cT q kp Wn made fl num rfs root own tad trm tpl wlk ord met msz cur mend pnx pen st coll mins movd w) (k : Nat) (hk : k < made) (x : Nat) (hdg : decode cc pc = .ok (.putfield 40, 3)) (kk : ∀ (w : mM) (H1 : Heap) (locs1 : List Loc), CW cI cT q kp Wn made fl num rfs root own (va_up tad k x) trm tpl wlk ord met msz cur mend pnx pen st coll mins movd w → mG (dC, dI) vwCl A H0 w H1 locs1 → W p l e R s m args below meth c H1 locs1 cells slots Q (F0 m (pc + 3) ls rest)) : W p l e R s m args below meth c H locs cells slots Q (F0 m pc ls (.int (nI x) :: .ref (tq q k) :: rest)) := by
  have h2 : cellC cI cT q kp Wn made fl num rfs root own (va_up tad k x) trm tpl wlk ord met msz cur mend pnx pen st coll mins movd (3 * k + 9) = .inr (5, [.int (nI k), .ref (q (3 * k + 10)), .ref (q (3 * k + 11)), .int (nI x), .int (bI (trm k)), .int (nI (tpl k)), .int (nI (wlk k)), .int (nI (ord k))]) := by
    have h1 : cellC cI cT q kp Wn made fl num rfs root own (va_up tad k x) trm tpl wlk ord met msz cur mend pnx pen st coll mins movd (3 * k + 9) = thC cI cT q fl num rfs (va_up tad k x) trm tpl wlk ord (3 * k % 3) (3 * k / 3) := rfl
    rw [h1, show 3 * k % 3 = 0 by omega, show 3 * k / 3 = k by omega]
    simp only [thC, va_up, if_true]
  refine mw_put S inlX6 tyX6 tyX6_ok nmX6 hK hG (hC.th hk) rfl 3 (by decide) in_276 (fun _ h9 => h9) rfl (ty := .int) (by decide +kernel) rfl rfl (Nat.le_of_ble_eq_true rfl) hdg (fun H1 locs1 hG1 => kk _ H1 locs1 (IP.upd (cell2 := cellC cI cT q kp Wn made fl num rfs root own (va_up tad k x) trm tpl wlk ord met msz cur mend pnx pen st coll mins movd) hC (3 * k + 9) (domC_t (r := 0) hk (by decide)) (fun i hi hn => ?_)) ?_)
  · rcases i with _|_|_|_|_|_|_|_|_|i <;> first | rfl | skip
    show thC cI cT q fl num rfs (va_up tad k x) trm tpl wlk ord (i % 3) (i / 3) = thC cI cT q fl num rfs tad trm tpl wlk ord (i % 3) (i / 3)
    rcases (show i % 3 = 0 ∨ i % 3 = 1 ∨ i % 3 = 2 by omega) with h | h | h
    · rw [h]
      have hne : i / 3 ≠ k := fun z => hn (by omega)
      simp only [thC, va_up, if_neg hne]
    · rw [h]; rfl
    · rw [h]; rfl
  · rw [h2]; exact hG1
theorem cg_RX0_134 (S : CallFix p m c cc nL s args wsL RX0) (hK : va_K (dC, dI) vwCl (tyL cI cZ cT) s) (hG : mG (dC, dI) vwCl A H0 w H locs) (hC : CW cI cT q kp Wn made fl num rfs root own tad trm tpl wlk ord met msz cur mend pnx pen st coll mins movd w) (hk : kp = 2) (hdg : decode cc pc = .ok (.getfield 134, 3)) (kk : W p l e R s m args below meth c H locs cells slots Q (F0 m (pc + 3) ls (.int (nI movd) :: rest))) : W p l e R s m args below meth c H locs cells slots Q (F0 m pc ls (.ref (q 5) :: rest)) :=
  mw_get S inlX0 hK hG (hC.obj0 hk) rfl 5 (by decide) in_277 (u_same (S.2.2.2.2 _ in_278)) rfl hdg kk
theorem cp_RX0_134 (S : CallFix p m c cc nL s args wsL RX0) (hK : va_K (dC, dI) vwCl (tyL cI cZ cT) s) (hG : mG (dC, dI) vwCl A H0 w H locs) (hC : CW cI cT q kp Wn made fl num rfs root own tad trm tpl wlk ord met msz cur mend pnx pen st coll mins movd w) (hk : kp = 2) (x : Nat) (hdg : decode cc pc = .ok (.putfield 134, 3)) (kk : ∀ (w : mM) (H1 : Heap) (locs1 : List Loc), CW cI cT q kp Wn made fl num rfs root own tad trm tpl wlk ord met msz cur mend pnx pen st coll mins x w → mG (dC, dI) vwCl A H0 w H1 locs1 → W p l e R s m args below meth c H1 locs1 cells slots Q (F0 m (pc + 3) ls rest)) : W p l e R s m args below meth c H locs cells slots Q (F0 m pc ls (.int (nI x) :: .ref (q 5) :: rest)) := by
  subst hk
  exact mw_put S inlX0 tyX0 tyX0_ok nmX0 hK hG hC.kpr rfl 5 (by decide) in_277 (u_same (S.2.2.2.2 _ in_278)) rfl (ty := .int) (by decide +kernel) rfl rfl (Nat.le_of_ble_eq_true rfl) hdg (fun H1 locs1 hG1 => kk _ H1 locs1 (IP.upd (cell2 := cellC cI cT q 2 Wn made fl num rfs root own tad trm tpl wlk ord met msz cur mend pnx pen st coll mins x) hC 5 (Or.inl (by decide)) (fun i hi hn => by rcases i with _|_|_|_|_|_|_|_|_|i <;> first | rfl | exact absurd rfl hn)) hG1)
theorem cg_RX0_45 (S : CallFix p m c cc nL s args wsL RX0) (hK : va_K (dC, dI) vwCl (tyL cI cZ cT) s) (hG : mG (dC, dI) vwCl A H0 w H locs) (hC : CW cI cT q kp Wn made fl num rfs root own tad trm tpl wlk ord met msz cur mend pnx pen st coll mins movd w) (hk : kp = 2) (hdg : decode cc pc = .ok (.getfield 45, 3)) (kk : W p l e R s m args below meth c H locs cells slots Q (F0 m (pc + 3) ls (.int (nI coll) :: rest))) : W p l e R s m args below meth c H locs cells slots Q (F0 m pc ls (.ref (q 5) :: rest)) :=
  mw_get S inlX0 hK hG (hC.obj0 hk) rfl 3 (by decide) in_291 (u_same (S.2.2.2.2 _ in_292)) rfl hdg kk
theorem cp_RX0_45 (S : CallFix p m c cc nL s args wsL RX0) (hK : va_K (dC, dI) vwCl (tyL cI cZ cT) s) (hG : mG (dC, dI) vwCl A H0 w H locs) (hC : CW cI cT q kp Wn made fl num rfs root own tad trm tpl wlk ord met msz cur mend pnx pen st coll mins movd w) (hk : kp = 2) (x : Nat) (hdg : decode cc pc = .ok (.putfield 45, 3)) (kk : ∀ (w : mM) (H1 : Heap) (locs1 : List Loc), CW cI cT q kp Wn made fl num rfs root own tad trm tpl wlk ord met msz cur mend pnx pen st x mins movd w → mG (dC, dI) vwCl A H0 w H1 locs1 → W p l e R s m args below meth c H1 locs1 cells slots Q (F0 m (pc + 3) ls rest)) : W p l e R s m args below meth c H locs cells slots Q (F0 m pc ls (.int (nI x) :: .ref (q 5) :: rest)) := by
  subst hk
  exact mw_put S inlX0 tyX0 tyX0_ok nmX0 hK hG hC.kpr rfl 3 (by decide) in_291 (u_same (S.2.2.2.2 _ in_292)) rfl (ty := .int) (by decide +kernel) rfl rfl (Nat.le_of_ble_eq_true rfl) hdg (fun H1 locs1 hG1 => kk _ H1 locs1 (IP.upd (cell2 := cellC cI cT q 2 Wn made fl num rfs root own tad trm tpl wlk ord met msz cur mend pnx pen st x mins movd) hC 5 (Or.inl (by decide)) (fun i hi hn => by rcases i with _|_|_|_|_|_|_|_|_|i <;> first | rfl | exact absurd rfl hn)) hG1)
theorem cg_RX1_38 (S : CallFix p m c cc nL s args wsL RX1) (hK : va_K (dC, dI) vwCl (tyL cI cZ cT) s) (hG : mG (dC, dI) vwCl A H0 w H locs) (hC : CW cI cT q kp Wn made fl num rfs root own tad trm tpl wlk ord met msz cur mend pnx pen st coll mins movd w) (hk : kp = 1) (hdg : decode cc pc = .ok (.getfield 38, 3)) (kk : W p l e R s m args below meth c H locs cells slots Q (F0 m (pc + 3) ls (.int (nI coll) :: rest))) : W p l e R s m args below meth c H locs cells slots Q (F0 m pc ls (.ref (q 5) :: rest)) :=
  mw_get S inlX1 hK hG (hC.obj1 hk) rfl 3 (by decide) in_320 (u_same (S.2.2.2.2 _ in_321)) rfl hdg kk
theorem cp_RX1_38 (S : CallFix p m c cc nL s args wsL RX1) (hK : va_K (dC, dI) vwCl (tyL cI cZ cT) s) (hG : mG (dC, dI) vwCl A H0 w H locs) (hC : CW cI cT q kp Wn made fl num rfs root own tad trm tpl wlk ord met msz cur mend pnx pen st coll mins movd w) (hk : kp = 1) (x : Nat) (hdg : decode cc pc = .ok (.putfield 38, 3)) (kk : ∀ (w : mM) (H1 : Heap) (locs1 : List Loc), CW cI cT q kp Wn made fl num rfs root own tad trm tpl wlk ord met msz cur mend pnx pen st x mins movd w → mG (dC, dI) vwCl A H0 w H1 locs1 → W p l e R s m args below meth c H1 locs1 cells slots Q (F0 m (pc + 3) ls rest)) : W p l e R s m args below meth c H locs cells slots Q (F0 m pc ls (.int (nI x) :: .ref (q 5) :: rest)) := by
  subst hk
  exact mw_put S inlX1 tyX1 tyX1_ok nmX1 hK hG hC.kpr rfl 3 (by decide) in_320 (u_same (S.2.2.2.2 _ in_321)) rfl (ty := .int) (by decide +kernel) rfl rfl (Nat.le_of_ble_eq_true rfl) hdg (fun H1 locs1 hG1 => kk _ H1 locs1 (IP.upd (cell2 := cellC cI cT q 1 Wn made fl num rfs root own tad trm tpl wlk ord met msz cur mend pnx pen st x mins movd) hC 5 (Or.inl (by decide)) (fun i hi hn => by rcases i with _|_|_|_|_|_|_|_|_|i <;> first | rfl | exact absurd rfl hn)) hG1)
theorem cg_RX1_41 (S : CallFix p m c cc nL s args wsL RX1) (hK : va_K (dC, dI) vwCl (tyL cI cZ cT) s) (hG : mG (dC, dI) vwCl A H0 w H locs) (hC : CW cI cT q kp Wn made fl num rfs root own tad trm tpl wlk ord met msz cur mend pnx pen st coll mins movd w) (hk : kp = 1) (hdg : decode cc pc = .ok (.getfield 41, 3)) (kk : W p l e R s m args below meth c H locs cells slots Q (F0 m (pc + 3) ls (.ref (q 1) :: rest))) : W p l e R s m args below meth c H locs cells slots Q (F0 m pc ls (.ref (q 5) :: rest)) :=
  mw_get S inlX1 hK hG (hC.obj1 hk) rfl 0 (by decide) in_322 (u_same (S.2.2.2.2 _ in_323)) rfl hdg kk
theorem cg_RX1_59 (S : CallFix p m c cc nL s args wsL RX1) (hK : va_K (dC, dI) vwCl (tyL cI cZ cT) s) (hG : mG (dC, dI) vwCl A H0 w H locs) (hC : CW cI cT q kp Wn made fl num rfs root own tad trm tpl wlk ord met msz cur mend pnx pen st coll mins movd w) (hk : kp = 1) (hdg : decode cc pc = .ok (.getfield 59, 3)) (kk : W p l e R s m args below meth c H locs cells slots Q (F0 m (pc + 3) ls (.ref (q 6) :: rest))) : W p l e R s m args below meth c H locs cells slots Q (F0 m pc ls (.ref (q 5) :: rest)) :=
  mw_get S inlX1 hK hG (hC.obj1 hk) rfl 2 (by decide) in_324 (u_same (S.2.2.2.2 _ in_325)) rfl hdg kk
theorem cg_RX1_79 (S : CallFix p m c cc nL s args wsL RX1) (hK : va_K (dC, dI) vwCl (tyL cI cZ cT) s) (hG : mG (dC, dI) vwCl A H0 w H locs) (hC : CW cI cT q kp Wn made fl num rfs root own tad trm tpl wlk ord met msz cur mend pnx pen st coll mins movd w) (hk : kp = 1) (hdg : decode cc pc = .ok (.getfield 79, 3)) (kk : W p l e R s m args below meth c H locs cells slots Q (F0 m (pc + 3) ls (.int (nI movd) :: rest))) : W p l e R s m args below meth c H locs cells slots Q (F0 m pc ls (.ref (q 5) :: rest)) :=
  mw_get S inlX1 hK hG (hC.obj1 hk) rfl 5 (by decide) in_326 (u_same (S.2.2.2.2 _ in_327)) rfl hdg kk
theorem cp_RX1_79 (S : CallFix p m c cc nL s args wsL RX1) (hK : va_K (dC, dI) vwCl (tyL cI cZ cT) s) (hG : mG (dC, dI) vwCl A H0 w H locs) (hC : CW cI cT q kp Wn made fl num rfs root own tad trm tpl wlk ord met msz cur mend pnx pen st coll mins movd w) (hk : kp = 1) (x : Nat) (hdg : decode cc pc = .ok (.putfield 79, 3)) (kk : ∀ (w : mM) (H1 : Heap) (locs1 : List Loc), CW cI cT q kp Wn made fl num rfs root own tad trm tpl wlk ord met msz cur mend pnx pen st coll mins x w → mG (dC, dI) vwCl A H0 w H1 locs1 → W p l e R s m args below meth c H1 locs1 cells slots Q (F0 m (pc + 3) ls rest)) : W p l e R s m args below meth c H locs cells slots Q (F0 m pc ls (.int (nI x) :: .ref (q 5) :: rest)) := by
  subst hk
  exact mw_put S inlX1 tyX1 tyX1_ok nmX1 hK hG hC.kpr rfl 5 (by decide) in_326 (u_same (S.2.2.2.2 _ in_327)) rfl (ty := .int) (by decide +kernel) rfl rfl (Nat.le_of_ble_eq_true rfl) hdg (fun H1 locs1 hG1 => kk _ H1 locs1 (IP.upd (cell2 := cellC cI cT q 1 Wn made fl num rfs root own tad trm tpl wlk ord met msz cur mend pnx pen st coll mins x) hC 5 (Or.inl (by decide)) (fun i hi hn => by rcases i with _|_|_|_|_|_|_|_|_|i <;> first | rfl | exact absurd rfl hn)) hG1)
theorem cg_RX5_23 (S : CallFix p m c cc nL s args wsL RX5) (hK : va_K (dC, dI) vwCl (tyL cI cZ cT) s) (hG : mG (dC, dI) vwCl A H0 w H locs) (hC : CW cI cT q kp Wn made fl num rfs root own tad trm tpl wlk ord met msz cur mend pnx pen st coll mins movd w) (hk : kp = 0) (hdg : decode cc pc = .ok (.getfield 23, 3)) (kk : W p l e R s m args below meth c H locs cells slots Q (F0 m (pc + 3) ls (.int (nI coll) :: rest))) : W p l e R s m args below meth c H locs cells slots Q (F0 m pc ls (.ref (q 5) :: rest)) :=
  mw_get S inlX5 hK hG (hC.obj5 hk) rfl 3 (by decide) in_350 (u_same (S.2.2.2.2 _ in_351)) rfl hdg kk
theorem cp_RX5_23 (S : CallFix p m c cc nL s args wsL RX5) (hK : va_K (dC, dI) vwCl (tyL cI cZ cT) s) (hG : mG (dC, dI) vwCl A H0 w H locs) (hC : CW cI cT q kp Wn made fl num rfs root own tad trm tpl wlk ord met msz cur mend pnx pen st coll mins movd w) (hk : kp = 0) (x : Nat) (hdg : decode cc pc = .ok (.putfield 23, 3)) (kk : ∀ (w : mM) (H1 : Heap) (locs1 : List Loc), CW cI cT q kp Wn made fl num rfs root own tad trm tpl wlk ord met msz cur mend pnx pen st x mins movd w → mG (dC, dI) vwCl A H0 w H1 locs1 → W p l e R s m args below meth c H1 locs1 cells slots Q (F0 m (pc + 3) ls rest)) : W p l e R s m args below meth c H locs cells slots Q (F0 m pc ls (.int (nI x) :: .ref (q 5) :: rest)) := by
  subst hk
  exact mw_put S inlX5 tyX5 tyX5_ok nmX5 hK hG hC.kpr rfl 3 (by decide) in_350 (u_same (S.2.2.2.2 _ in_351)) rfl (ty := .int) (by decide +kernel) rfl rfl (Nat.le_of_ble_eq_true rfl) hdg (fun H1 locs1 hG1 => kk _ H1 locs1 (IP.upd (cell2 := cellC cI cT q 0 Wn made fl num rfs root own tad trm tpl wlk ord met msz cur mend pnx pen st x mins movd) hC 5 (Or.inl (by decide)) (fun i hi hn => by rcases i with _|_|_|_|_|_|_|_|_|i <;> first | rfl | exact absurd rfl hn)) hG1)
theorem cg_RX6_13 (S : CallFix p m c cc nL s args wsL RX6) (hK : va_K (dC, dI) vwCl (tyL cI cZ cT) s) (hG : mG (dC, dI) vwCl A H0 w H locs) (hC : CW cI cT q kp Wn made fl num rfs root own tad trm tpl wlk ord met msz cur mend pnx pen st coll mins movd w) (k : Nat) (hk : k < made) (hdg : decode cc pc = .ok (.getfield 13, 3)) (kk : W p l e R s m args below meth c H locs cells slots Q (F0 m (pc + 3) ls (.int (nI k) :: rest))) : W p l e R s m args below meth c H locs cells slots Q (F0 m pc ls (.ref (tq q k) :: rest)) :=
  mw_get S inlX6 hK hG (hC.th hk) rfl 0 (by decide) in_363 (fun _ h9 => h9) rfl hdg kk
theorem cg_RX6_27 (S : CallFix p m c cc nL s args wsL RX6) (hK : va_K (dC, dI) vwCl (tyL cI cZ cT) s) (hG : mG (dC, dI) vwCl A H0 w H locs) (hC : CW cI cT q kp Wn made fl num rfs root own tad trm tpl wlk ord met msz cur mend pnx pen st coll mins movd w) (k : Nat) (hk : k < made) (hdg : decode cc pc = .ok (.getfield 27, 3)) (kk : W p l e R s m args below meth c H locs cells slots Q (F0 m (pc + 3) ls (.int (nI (tad k)) :: rest))) : W p l e R s m args below meth c H locs cells slots Q (F0 m pc ls (.ref (tq q k) :: rest)) :=
  mw_get S inlX6 hK hG (hC.th hk) rfl 3 (by decide) in_365 (fun _ h9 => h9) rfl hdg kk
theorem cp_RX6_27 (S : CallFix p m c cc nL s args wsL RX6) (hK : va_K (dC, dI) vwCl (tyL cI cZ cT) s) (hG : mG (dC, dI) vwCl A H0 w H locs) (hC : CW cI cT q kp Wn made fl num rfs root own tad trm tpl wlk ord met msz cur mend pnx pen st coll mins movd w) (k : Nat) (hk : k < made) (x : Nat) (hdg : decode cc pc = .ok (.putfield 27, 3)) (kk : ∀ (w : mM) (H1 : Heap) (locs1 : List Loc), CW cI cT q kp Wn made fl num rfs root own (va_up tad k x) trm tpl wlk ord met msz cur mend pnx pen st coll mins movd w → mG (dC, dI) vwCl A H0 w H1 locs1 → W p l e R s m args below meth c H1 locs1 cells slots Q (F0 m (pc + 3) ls rest)) : W p l e R s m args below meth c H locs cells slots Q (F0 m pc ls (.int (nI x) :: .ref (tq q k) :: rest)) := by
  have h2 : cellC cI cT q kp Wn made fl num rfs root own (va_up tad k x) trm tpl wlk ord met msz cur mend pnx pen st coll mins movd (3 * k + 9) = .inr (5, [.int (nI k), .ref (q (3 * k + 10)), .ref (q (3 * k + 11)), .int (nI x), .int (bI (trm k)), .int (nI (tpl k)), .int (nI (wlk k)), .int (nI (ord k))]) := by
    have h1 : cellC cI cT q kp Wn made fl num rfs root own (va_up tad k x) trm tpl wlk ord met msz cur mend pnx pen st coll mins movd (3 * k + 9) = thC cI cT q fl num rfs (va_up tad k x) trm tpl wlk ord (3 * k % 3) (3 * k / 3) := rfl
    rw [h1, show 3 * k % 3 = 0 by omega, show 3 * k / 3 = k by omega]
    simp only [thC, va_up, if_true]
  refine mw_put S inlX6 tyX6 tyX6_ok nmX6 hK hG (hC.th hk) rfl 3 (by decide) in_365 (fun _ h9 => h9) rfl (ty := .int) (by decide +kernel) rfl rfl (Nat.le_of_ble_eq_true rfl) hdg (fun H1 locs1 hG1 => kk _ H1 locs1 (IP.upd (cell2 := cellC cI cT q kp Wn made fl num rfs root own (va_up tad k x) trm tpl wlk ord met msz cur mend pnx pen st coll mins movd) hC (3 * k + 9) (domC_t (r := 0) hk (by decide)) (fun i hi hn => ?_)) ?_)
  · rcases i with _|_|_|_|_|_|_|_|_|i <;> first | rfl | skip
    show thC cI cT q fl num rfs (va_up tad k x) trm tpl wlk ord (i % 3) (i / 3) = thC cI cT q fl num rfs tad trm tpl wlk ord (i % 3) (i / 3)
    rcases (show i % 3 = 0 ∨ i % 3 = 1 ∨ i % 3 = 2 by omega) with h | h | h
    · rw [h]
      have hne : i / 3 ≠ k := fun z => hn (by omega)
      simp only [thC, va_up, if_neg hne]
    · rw [h]; rfl
    · rw [h]; rfl
  · rw [h2]; exact hG1
theorem cg_RX6_30 (S : CallFix p m c cc nL s args wsL RX6) (hK : va_K (dC, dI) vwCl (tyL cI cZ cT) s) (hG : mG (dC, dI) vwCl A H0 w H locs) (hC : CW cI cT q kp Wn made fl num rfs root own tad trm tpl wlk ord met msz cur mend pnx pen st coll mins movd w) (k : Nat) (hk : k < made) (hdg : decode cc pc = .ok (.getfield 30, 3)) (kk : W p l e R s m args below meth c H locs cells slots Q (F0 m (pc + 3) ls (.int (bI (trm k)) :: rest))) : W p l e R s m args below meth c H locs cells slots Q (F0 m pc ls (.ref (tq q k) :: rest)) :=
  mw_get S inlX6 hK hG (hC.th hk) rfl 4 (by decide) in_366 (fun _ h9 => h9) rfl hdg kk
theorem cp_RX6_30 (S : CallFix p m c cc nL s args wsL RX6) (hK : va_K (dC, dI) vwCl (tyL cI cZ cT) s) (hG : mG (dC, dI) vwCl A H0 w H locs) (hC : CW cI cT q kp Wn made fl num rfs root own tad trm tpl wlk ord met msz cur mend pnx pen st coll mins movd w) (k : Nat) (hk : k < made) (x : Bool) (hdg : decode cc pc = .ok (.putfield 30, 3)) (kk : ∀ (w : mM) (H1 : Heap) (locs1 : List Loc), CW cI cT q kp Wn made fl num rfs root own tad (va_up trm k x) tpl wlk ord met msz cur mend pnx pen st coll mins movd w → mG (dC, dI) vwCl A H0 w H1 locs1 → W p l e R s m args below meth c H1 locs1 cells slots Q (F0 m (pc + 3) ls rest)) : W p l e R s m args below meth c H locs cells slots Q (F0 m pc ls (.int (bI x) :: .ref (tq q k) :: rest)) := by
  have h2 : cellC cI cT q kp Wn made fl num rfs root own tad (va_up trm k x) tpl wlk ord met msz cur mend pnx pen st coll mins movd (3 * k + 9) = .inr (5, [.int (nI k), .ref (q (3 * k + 10)), .ref (q (3 * k + 11)), .int (nI (tad k)), .int (bI x), .int (nI (tpl k)), .int (nI (wlk k)), .int (nI (ord k))]) := by
    have h1 : cellC cI cT q kp Wn made fl num rfs root own tad (va_up trm k x) tpl wlk ord met msz cur mend pnx pen st coll mins movd (3 * k + 9) = thC cI cT q fl num rfs tad (va_up trm k x) tpl wlk ord (3 * k % 3) (3 * k / 3) := rfl
    rw [h1, show 3 * k % 3 = 0 by omega, show 3 * k / 3 = k by omega]
    simp only [thC, va_up, if_true]
  refine mw_put S inlX6 tyX6 tyX6_ok nmX6 hK hG (hC.th hk) rfl 4 (by decide) in_366 (fun _ h9 => h9) rfl (ty := .boolean) (by decide +kernel) (bI_nar x) (bI_fit x) (Nat.le_of_ble_eq_true rfl) hdg (fun H1 locs1 hG1 => kk _ H1 locs1 (IP.upd (cell2 := cellC cI cT q kp Wn made fl num rfs root own tad (va_up trm k x) tpl wlk ord met msz cur mend pnx pen st coll mins movd) hC (3 * k + 9) (domC_t (r := 0) hk (by decide)) (fun i hi hn => ?_)) ?_)
  · rcases i with _|_|_|_|_|_|_|_|_|i <;> first | rfl | skip
    show thC cI cT q fl num rfs tad (va_up trm k x) tpl wlk ord (i % 3) (i / 3) = thC cI cT q fl num rfs tad trm tpl wlk ord (i % 3) (i / 3)
    rcases (show i % 3 = 0 ∨ i % 3 = 1 ∨ i % 3 = 2 by omega) with h | h | h
    · rw [h]
      have hne : i / 3 ≠ k := fun z => hn (by omega)
      simp only [thC, va_up, if_neg hne]
    · rw [h]; rfl
    · rw [h]; rfl
  · rw [h2]; exact hG1
theorem cg_RX6_34 (S : CallFix p m c cc nL s args wsL RX6) (hK : va_K (dC, dI) vwCl (tyL cI cZ cT) s) (hG : mG (dC, dI) vwCl A H0 w H locs) (hC : CW cI cT q kp Wn made fl num rfs root own tad trm tpl wlk ord met msz cur mend pnx pen st coll mins movd w) (k : Nat) (hk : k < made) (hdg : decode cc pc = .ok (.getfield 34, 3)) (kk : W p l e R s m args below meth c H locs cells slots Q (F0 m (pc + 3) ls (.int (nI (tpl k)) :: rest))) : W p l e R s m args below meth c H locs cells slots Q (F0 m pc ls (.ref (tq q k) :: rest)) :=
  mw_get S inlX6 hK hG (hC.th hk) rfl 5 (by decide) in_367 (fun _ h9 => h9) rfl hdg kk
theorem cp_RX6_34 (S : CallFix p m c cc nL s args wsL RX6) (hK : va_K (dC, dI) vwCl (tyL cI cZ cT) s) (hG : mG (dC, dI) vwCl A H0 w H locs) (hC : CW cI cT q kp Wn made fl num rfs root own tad trm tpl wlk ord met msz cur mend pnx pen st coll mins movd w) (k : Nat) (hk : k < made) (x : Nat) (hdg : decode cc pc = .ok (.putfield 34, 3)) (kk : ∀ (w : mM) (H1 : Heap) (locs1 : List Loc), CW cI cT q kp Wn made fl num rfs root own tad trm (va_up tpl k x) wlk ord met msz cur mend pnx pen st coll mins movd w → mG (dC, dI) vwCl A H0 w H1 locs1 → W p l e R s m args below meth c H1 locs1 cells slots Q (F0 m (pc + 3) ls rest)) : W p l e R s m args below meth c H locs cells slots Q (F0 m pc ls (.int (nI x) :: .ref (tq q k) :: rest)) := by
  have h2 : cellC cI cT q kp Wn made fl num rfs root own tad trm (va_up tpl k x) wlk ord met msz cur mend pnx pen st coll mins movd (3 * k + 9) = .inr (5, [.int (nI k), .ref (q (3 * k + 10)), .ref (q (3 * k + 11)), .int (nI (tad k)), .int (bI (trm k)), .int (nI x), .int (nI (wlk k)), .int (nI (ord k))]) := by
    have h1 : cellC cI cT q kp Wn made fl num rfs root own tad trm (va_up tpl k x) wlk ord met msz cur mend pnx pen st coll mins movd (3 * k + 9) = thC cI cT q fl num rfs tad trm (va_up tpl k x) wlk ord (3 * k % 3) (3 * k / 3) := rfl
    rw [h1, show 3 * k % 3 = 0 by omega, show 3 * k / 3 = k by omega]
    simp only [thC, va_up, if_true]
  refine mw_put S inlX6 tyX6 tyX6_ok nmX6 hK hG (hC.th hk) rfl 5 (by decide) in_367 (fun _ h9 => h9) rfl (ty := .int) (by decide +kernel) rfl rfl (Nat.le_of_ble_eq_true rfl) hdg (fun H1 locs1 hG1 => kk _ H1 locs1 (IP.upd (cell2 := cellC cI cT q kp Wn made fl num rfs root own tad trm (va_up tpl k x) wlk ord met msz cur mend pnx pen st coll mins movd) hC (3 * k + 9) (domC_t (r := 0) hk (by decide)) (fun i hi hn => ?_)) ?_)
  · rcases i with _|_|_|_|_|_|_|_|_|i <;> first | rfl | skip
    show thC cI cT q fl num rfs tad trm (va_up tpl k x) wlk ord (i % 3) (i / 3) = thC cI cT q fl num rfs tad trm tpl wlk ord (i % 3) (i / 3)
    rcases (show i % 3 = 0 ∨ i % 3 = 1 ∨ i % 3 = 2 by omega) with h | h | h
    · rw [h]
      have hne : i / 3 ≠ k := fun z => hn (by omega)
      simp only [thC, va_up, if_neg hne]
    · rw [h]; rfl
    · rw [h]; rfl
  · rw [h2]; exact hG1
theorem cg_RX6_37 (S : CallFix p m c cc nL s args wsL RX6) (hK : va_K (dC, dI) vwCl (tyL cI cZ cT) s) (hG : mG (dC, dI) vwCl A H0 w H locs) (hC : CW cI cT q kp Wn made fl num rfs root own tad trm tpl wlk ord met msz cur mend pnx pen st coll mins movd w) (k : Nat) (hk : k < made) (hdg : decode cc pc = .ok (.getfield 37, 3)) (kk : W p l e R s m args below meth c H locs cells slots Q (F0 m (pc + 3) ls (.int (nI (wlk k)) :: rest))) : W p l e R s m args below meth c H locs cells slots Q (F0 m pc ls (.ref (tq q k) :: rest)) :=
  mw_get S inlX6 hK hG (hC.th hk) rfl 6 (by decide) in_368 (fun _ h9 => h9) rfl hdg kk
theorem cp_RX6_37 (S : CallFix p m c cc nL s args wsL RX6) (hK : va_K (dC, dI) vwCl (tyL cI cZ cT) s) (hG : mG (dC, dI) vwCl A H0 w H locs) (hC : CW cI cT q kp Wn made fl num rfs root own tad trm tpl wlk ord met msz cur mend pnx pen st coll mins movd w) (k : Nat) (hk : k < made) (x : Nat) (hdg : decode cc pc = .ok (.putfield 37, 3)) (kk : ∀ (w : mM) (H1 : Heap) (locs1 : List Loc), CW cI cT q kp Wn made fl num rfs root own tad trm tpl (va_up wlk k x) ord met msz cur mend pnx pen st coll mins movd w → mG (dC, dI) vwCl A H0 w H1 locs1 → W p l e R s m args below meth c H1 locs1 cells slots Q (F0 m (pc + 3) ls rest)) : W p l e R s m args below meth c H locs cells slots Q (F0 m pc ls (.int (nI x) :: .ref (tq q k) :: rest)) := by
  have h2 : cellC cI cT q kp Wn made fl num rfs root own tad trm tpl (va_up wlk k x) ord met msz cur mend pnx pen st coll mins movd (3 * k + 9) = .inr (5, [.int (nI k), .ref (q (3 * k + 10)), .ref (q (3 * k + 11)), .int (nI (tad k)), .int (bI (trm k)), .int (nI (tpl k)), .int (nI x), .int (nI (ord k))]) := by
    have h1 : cellC cI cT q kp Wn made fl num rfs root own tad trm tpl (va_up wlk k x) ord met msz cur mend pnx pen st coll mins movd (3 * k + 9) = thC cI cT q fl num rfs tad trm tpl (va_up wlk k x) ord (3 * k % 3) (3 * k / 3) := rfl
    rw [h1, show 3 * k % 3 = 0 by omega, show 3 * k / 3 = k by omega]
    simp only [thC, va_up, if_true]
  refine mw_put S inlX6 tyX6 tyX6_ok nmX6 hK hG (hC.th hk) rfl 6 (by decide) in_368 (fun _ h9 => h9) rfl (ty := .int) (by decide +kernel) rfl rfl (Nat.le_of_ble_eq_true rfl) hdg (fun H1 locs1 hG1 => kk _ H1 locs1 (IP.upd (cell2 := cellC cI cT q kp Wn made fl num rfs root own tad trm tpl (va_up wlk k x) ord met msz cur mend pnx pen st coll mins movd) hC (3 * k + 9) (domC_t (r := 0) hk (by decide)) (fun i hi hn => ?_)) ?_)
  · rcases i with _|_|_|_|_|_|_|_|_|i <;> first | rfl | skip
    show thC cI cT q fl num rfs tad trm tpl (va_up wlk k x) ord (i % 3) (i / 3) = thC cI cT q fl num rfs tad trm tpl wlk ord (i % 3) (i / 3)
    rcases (show i % 3 = 0 ∨ i % 3 = 1 ∨ i % 3 = 2 by omega) with h | h | h
    · rw [h]
      have hne : i / 3 ≠ k := fun z => hn (by omega)
      simp only [thC, va_up, if_neg hne]
    · rw [h]; rfl
    · rw [h]; rfl
  · rw [h2]; exact hG1
theorem cg_RX6_40 (S : CallFix p m c cc nL s args wsL RX6) (hK : va_K (dC, dI) vwCl (tyL cI cZ cT) s) (hG : mG (dC, dI) vwCl A H0 w H locs) (hC : CW cI cT q kp Wn made fl num rfs root own tad trm tpl wlk ord met msz cur mend pnx pen st coll mins movd w) (k : Nat) (hk : k < made) (hdg : decode cc pc = .ok (.getfield 40, 3)) (kk : W p l e R s m args below meth c H locs cells slots Q (F0 m (pc + 3) ls (.int (nI (ord k)) :: rest))) : W p l e R s m args below meth c H locs cells slots Q (F0 m pc ls (.ref (tq q k) :: rest)) :=
  mw_get S inlX6 hK hG (hC.th hk) rfl 7 (by decide) in_369 (fun _ h9 => h9) rfl hdg kk
theorem cp_RX6_40 (S : CallFix p m c cc nL s args wsL RX6) (hK : va_K (dC, dI) vwCl (tyL cI cZ cT) s) (hG : mG (dC, dI) vwCl A H0 w H locs) (hC : CW cI cT q kp Wn made fl num rfs root own tad trm tpl wlk ord met msz cur mend pnx pen st coll mins movd w) (k : Nat) (hk : k < made) (x : Nat) (hdg : decode cc pc = .ok (.putfield 40, 3)) (kk : ∀ (w : mM) (H1 : Heap) (locs1 : List Loc), CW cI cT q kp Wn made fl num rfs root own tad trm tpl wlk (va_up ord k x) met msz cur mend pnx pen st coll mins movd w → mG (dC, dI) vwCl A H0 w H1 locs1 → W p l e R s m args below meth c H1 locs1 cells slots Q (F0 m (pc + 3) ls rest)) : W p l e R s m args below meth c H locs cells slots Q (F0 m pc ls (.int (nI x) :: .ref (tq q k) :: rest)) := by
  have h2 : cellC cI cT q kp Wn made fl num rfs root own tad trm tpl wlk (va_up ord k x) met msz cur mend pnx pen st coll mins movd (3 * k + 9) = .inr (5, [.int (nI k), .ref (q (3 * k + 10)), .ref (q (3 * k + 11)), .int (nI (tad k)), .int (bI (trm k)), .int (nI (tpl k)), .int (nI (wlk k)), .int (nI x)]) := by
    have h1 : cellC cI cT q kp Wn made fl num rfs root own tad trm tpl wlk (va_up ord k x) met msz cur mend pnx pen st coll mins movd (3 * k + 9) = thC cI cT q fl num rfs tad trm tpl wlk (va_up ord k x) (3 * k % 3) (3 * k / 3) := rfl
    rw [h1, show 3 * k % 3 = 0 by omega, show 3 * k / 3 = k by omega]
    simp only [thC, va_up, if_true]
  refine mw_put S inlX6 tyX6 tyX6_ok nmX6 hK hG (hC.th hk) rfl 7 (by decide) in_369 (fun _ h9 => h9) rfl (ty := .int) (by decide +kernel) rfl rfl (Nat.le_of_ble_eq_true rfl) hdg (fun H1 locs1 hG1 => kk _ H1 locs1 (IP.upd (cell2 := cellC cI cT q kp Wn made fl num rfs root own tad trm tpl wlk (va_up ord k x) met msz cur mend pnx pen st coll mins movd) hC (3 * k + 9) (domC_t (r := 0) hk (by decide)) (fun i hi hn => ?_)) ?_)
  · rcases i with _|_|_|_|_|_|_|_|_|i <;> first | rfl | skip
    show thC cI cT q fl num rfs tad trm tpl wlk (va_up ord k x) (i % 3) (i / 3) = thC cI cT q fl num rfs tad trm tpl wlk ord (i % 3) (i / 3)
    rcases (show i % 3 = 0 ∨ i % 3 = 1 ∨ i % 3 = 2 by omega) with h | h | h
    · rw [h]
      have hne : i / 3 ≠ k := fun z => hn (by omega)
      simp only [thC, va_up, if_neg hne]
    · rw [h]; rfl
    · rw [h]; rfl
  · rw [h2]; exact hG1
theorem cg_RX9_89 (S : CallFix p m c cc nL s args wsL RX9) (hK : va_K (dC, dI) vwCl (tyL cI cZ cT) s) (hG : mG (dC, dI) vwCl A H0 w H locs) (hC : CW cI cT q kp Wn made fl num rfs root own tad trm tpl wlk ord met msz cur mend pnx pen st coll mins movd w) (k : Nat) (hk : k < made) (hdg : decode cc pc = .ok (.getfield 89, 3)) (kk : W p l e R s m args below meth c H locs cells slots Q (F0 m (pc + 3) ls (.int (bI (trm k)) :: rest))) : W p l e R s m args below meth c H locs cells slots Q (F0 m pc ls (.ref (tq q k) :: rest)) :=
  mw_get S inlX6 hK hG (hC.th hk) rfl 4 (by decide) in_491 (fun _ h9 => h9) rfl hdg kk
theorem cp_RX9_89 (S : CallFix p m c cc nL s args wsL RX9) (hK : va_K (dC, dI) vwCl (tyL cI cZ cT) s) (hG : mG (dC, dI) vwCl A H0 w H locs) (hC : CW cI cT q kp Wn made fl num rfs root own tad trm tpl wlk ord met msz cur mend pnx pen st coll mins movd w) (k : Nat) (hk : k < made) (x : Bool) (hdg : decode cc pc = .ok (.putfield 89, 3)) (kk : ∀ (w : mM) (H1 : Heap) (locs1 : List Loc), CW cI cT q kp Wn made fl num rfs root own tad (va_up trm k x) tpl wlk ord met msz cur mend pnx pen st coll mins movd w → mG (dC, dI) vwCl A H0 w H1 locs1 → W p l e R s m args below meth c H1 locs1 cells slots Q (F0 m (pc + 3) ls rest)) : W p l e R s m args below meth c H locs cells slots Q (F0 m pc ls (.int (bI x) :: .ref (tq q k) :: rest)) := by
  have h2 : cellC cI cT q kp Wn made fl num rfs root own tad (va_up trm k x) tpl wlk ord met msz cur mend pnx pen st coll mins movd (3 * k + 9) = .inr (5, [.int (nI k), .ref (q (3 * k + 10)), .ref (q (3 * k + 11)), .int (nI (tad k)), .int (bI x), .int (nI (tpl k)), .int (nI (wlk k)), .int (nI (ord k))]) := by
    have h1 : cellC cI cT q kp Wn made fl num rfs root own tad (va_up trm k x) tpl wlk ord met msz cur mend pnx pen st coll mins movd (3 * k + 9) = thC cI cT q fl num rfs tad (va_up trm k x) tpl wlk ord (3 * k % 3) (3 * k / 3) := rfl
    rw [h1, show 3 * k % 3 = 0 by omega, show 3 * k / 3 = k by omega]
    simp only [thC, va_up, if_true]
  refine mw_put S inlX6 tyX6 tyX6_ok nmX6 hK hG (hC.th hk) rfl 4 (by decide) in_491 (fun _ h9 => h9) rfl (ty := .boolean) (by decide +kernel) (bI_nar x) (bI_fit x) (Nat.le_of_ble_eq_true rfl) hdg (fun H1 locs1 hG1 => kk _ H1 locs1 (IP.upd (cell2 := cellC cI cT q kp Wn made fl num rfs root own tad (va_up trm k x) tpl wlk ord met msz cur mend pnx pen st coll mins movd) hC (3 * k + 9) (domC_t (r := 0) hk (by decide)) (fun i hi hn => ?_)) ?_)
  · rcases i with _|_|_|_|_|_|_|_|_|i <;> first | rfl | skip
    show thC cI cT q fl num rfs tad (va_up trm k x) tpl wlk ord (i % 3) (i / 3) = thC cI cT q fl num rfs tad trm tpl wlk ord (i % 3) (i / 3)
    rcases (show i % 3 = 0 ∨ i % 3 = 1 ∨ i % 3 = 2 by omega) with h | h | h
    · rw [h]
      have hne : i / 3 ≠ k := fun z => hn (by omega)
      simp only [thC, va_up, if_neg hne]
    · rw [h]; rfl
    · rw [h]; rfl
  · rw [h2]; exact hG1
theorem cg_RX9_114 (S : CallFix p m c cc nL s args wsL RX9) (hK : va_K (dC, dI) vwCl (tyL cI cZ cT) s) (hG : mG (dC, dI) vwCl A H0 w H locs) (hC : CW cI cT q kp Wn made fl num rfs root own tad trm tpl wlk ord met msz cur mend pnx pen st coll mins movd w) (k : Nat) (hk : k < made) (hdg : decode cc pc = .ok (.getfield 114, 3)) (kk : W p l e R s m args below meth c H locs cells slots Q (F0 m (pc + 3) ls (.int (nI (tad k)) :: rest))) : W p l e R s m args below meth c H locs cells slots Q (F0 m pc ls (.ref (tq q k) :: rest)) :=
  mw_get S inlX6 hK hG (hC.th hk) rfl 3 (by decide) in_590 (fun _ h9 => h9) rfl hdg kk
theorem cp_RX9_114 (S : CallFix p m c cc nL s args wsL RX9) (hK : va_K (dC, dI) vwCl (tyL cI cZ cT) s) (hG : mG (dC, dI) vwCl A H0 w H locs) (hC : CW cI cT q kp Wn made fl num rfs root own tad trm tpl wlk ord met msz cur mend pnx pen st coll mins movd w) (k : Nat) (hk : k < made) (x : Nat) (hdg : decode cc pc = .ok (.putfield 114, 3)) (kk : ∀ (w : mM) (H1 : Heap) (locs1 : List Loc), CW cI cT q kp Wn made fl num rfs root own (va_up tad k x) trm tpl wlk ord met msz cur mend pnx pen st coll mins movd w → mG (dC, dI) vwCl A H0 w H1 locs1 → W p l e R s m args below meth c H1 locs1 cells slots Q (F0 m (pc + 3) ls rest)) : W p l e R s m args below meth c H locs cells slots Q (F0 m pc ls (.int (nI x) :: .ref (tq q k) :: rest)) := by
  have h2 : cellC cI cT q kp Wn made fl num rfs root own (va_up tad k x) trm tpl wlk ord met msz cur mend pnx pen st coll mins movd (3 * k + 9) = .inr (5, [.int (nI k), .ref (q (3 * k + 10)), .ref (q (3 * k + 11)), .int (nI x), .int (bI (trm k)), .int (nI (tpl k)), .int (nI (wlk k)), .int (nI (ord k))]) := by
    have h1 : cellC cI cT q kp Wn made fl num rfs root own (va_up tad k x) trm tpl wlk ord met msz cur mend pnx pen st coll mins movd (3 * k + 9) = thC cI cT q fl num rfs (va_up tad k x) trm tpl wlk ord (3 * k % 3) (3 * k / 3) := rfl
    rw [h1, show 3 * k % 3 = 0 by omega, show 3 * k / 3 = k by omega]
    simp only [thC, va_up, if_true]
  refine mw_put S inlX6 tyX6 tyX6_ok nmX6 hK hG (hC.th hk) rfl 3 (by decide) in_590 (fun _ h9 => h9) rfl (ty := .int) (by decide +kernel) rfl rfl (Nat.le_of_ble_eq_true rfl) hdg (fun H1 locs1 hG1 => kk _ H1 locs1 (IP.upd (cell2 := cellC cI cT q kp Wn made fl num rfs root own (va_up tad k x) trm tpl wlk ord met msz cur mend pnx pen st coll mins movd) hC (3 * k + 9) (domC_t (r := 0) hk (by decide)) (fun i hi hn => ?_)) ?_)
  · rcases i with _|_|_|_|_|_|_|_|_|i <;> first | rfl | skip
    show thC cI cT q fl num rfs (va_up tad k x) trm tpl wlk ord (i % 3) (i / 3) = thC cI cT q fl num rfs tad trm tpl wlk ord (i % 3) (i / 3)
    rcases (show i % 3 = 0 ∨ i % 3 = 1 ∨ i % 3 = 2 by omega) with h | h | h
    · rw [h]
      have hne : i / 3 ≠ k := fun z => hn (by omega)
      simp only [thC, va_up, if_neg hne]
    · rw [h]; rfl
    · rw [h]; rfl
  · rw [h2]; exact hG1
theorem cg_RX9_132 (S : CallFix p m c cc nL s args wsL RX9) (hK : va_K (dC, dI) vwCl (tyL cI cZ cT) s) (hG : mG (dC, dI) vwCl A H0 w H locs) (hC : CW cI cT q kp Wn made fl num rfs root own tad trm tpl wlk ord met msz cur mend pnx pen st coll mins movd w) (hdg : decode cc pc = .ok (.getfield 132, 3)) (kk : W p l e R s m args below meth c H locs cells slots Q (F0 m (pc + 3) ls (.int (nI coll) :: rest))) : W p l e R s m args below meth c H locs cells slots Q (F0 m pc ls (.ref (q 5) :: rest)) := by
  have h := hC.kpr
  rcases kp with _ | _ | kp
  · exact mw_get S inlX5 hK hG h rfl 3 (by decide) in_610 (fun _ h9 => h9) rfl hdg kk
  · exact mw_get S inlX1 hK hG h rfl 3 (by decide) in_610 (fun _ h9 => h9) rfl hdg kk
  · exact mw_get S inlX0 hK hG h rfl 3 (by decide) in_610 (fun _ h9 => h9) rfl hdg kk
theorem cg_RX9_135 (S : CallFix p m c cc nL s args wsL RX9) (hK : va_K (dC, dI) vwCl (tyL cI cZ cT) s) (hG : mG (dC, dI) vwCl A H0 w H locs) (hC : CW cI cT q kp Wn made fl num rfs root own tad trm tpl wlk ord met msz cur mend pnx pen st coll mins movd w) (hdg : decode cc pc = .ok (.getfield 135, 3)) (kk : W p l e R s m args below meth c H locs cells slots Q (F0 m (pc + 3) ls (.int (nI mins) :: rest))) : W p l e R s m args below meth c H locs cells slots Q (F0 m pc ls (.ref (q 5) :: rest)) := by
  have h := hC.kpr
  rcases kp with _ | _ | kp
  · exact mw_get S inlX5 hK hG h rfl 4 (by decide) in_611 (fun _ h9 => h9) rfl hdg kk
  · exact mw_get S inlX1 hK hG h rfl 4 (by decide) in_611 (fun _ h9 => h9) rfl hdg kk
  · exact mw_get S inlX0 hK hG h rfl 4 (by decide) in_611 (fun _ h9 => h9) rfl hdg kk
theorem cg_RX9_138 (S : CallFix p m c cc nL s args wsL RX9) (hK : va_K (dC, dI) vwCl (tyL cI cZ cT) s) (hG : mG (dC, dI) vwCl A H0 w H locs) (hC : CW cI cT q kp Wn made fl num rfs root own tad trm tpl wlk ord met msz cur mend pnx pen st coll mins movd w) (hdg : decode cc pc = .ok (.getfield 138, 3)) (kk : W p l e R s m args below meth c H locs cells slots Q (F0 m (pc + 3) ls (.int (nI movd) :: rest))) : W p l e R s m args below meth c H locs cells slots Q (F0 m pc ls (.ref (q 5) :: rest)) := by
  have h := hC.kpr
  rcases kp with _ | _ | kp
  · exact mw_get S inlX5 hK hG h rfl 5 (by decide) in_612 (fun _ h9 => h9) rfl hdg kk
  · exact mw_get S inlX1 hK hG h rfl 5 (by decide) in_612 (fun _ h9 => h9) rfl hdg kk
  · exact mw_get S inlX0 hK hG h rfl 5 (by decide) in_612 (fun _ h9 => h9) rfl hdg kk
theorem cg_RX8_45 (S : CallFix p m c cc nL s args wsL RX8) (hK : va_K (dC, dI) vwCl (tyL cI cZ cT) s) (hG : mG (dC, dI) vwCl A H0 w H locs) (hC : CW cI cT q kp Wn made fl num rfs root own tad trm tpl wlk ord met msz cur mend pnx pen st coll mins movd w) (k : Nat) (hk : k < made) (hdg : decode cc pc = .ok (.getfield 45, 3)) (kk : W p l e R s m args below meth c H locs cells slots Q (F0 m (pc + 3) ls (.int (bI (trm k)) :: rest))) : W p l e R s m args below meth c H locs cells slots Q (F0 m pc ls (.ref (tq q k) :: rest)) :=
  mw_get S inlX6 hK hG (hC.th hk) rfl 4 (by decide) in_622 (fun _ h9 => h9) rfl hdg kk
theorem cp_RX8_45 (S : CallFix p m c cc nL s args wsL RX8) (hK : va_K (dC, dI) vwCl (tyL cI cZ cT) s) (hG : mG (dC, dI) vwCl A H0 w H locs) (hC : CW cI cT q kp Wn made fl num rfs root own tad trm tpl wlk ord met msz cur mend pnx pen st coll mins movd w) (k : Nat) (hk : k < made) (x : Bool) (hdg : decode cc pc = .ok (.putfield 45, 3)) (kk : ∀ (w : mM) (H1 : Heap) (locs1 : List Loc), CW cI cT q kp Wn made fl num rfs root own tad (va_up trm k x) tpl wlk ord met msz cur mend pnx pen st coll mins movd w → mG (dC, dI) vwCl A H0 w H1 locs1 → W p l e R s m args below meth c H1 locs1 cells slots Q (F0 m (pc + 3) ls rest)) : W p l e R s m args below meth c H locs cells slots Q (F0 m pc ls (.int (bI x) :: .ref (tq q k) :: rest)) := by
  have h2 : cellC cI cT q kp Wn made fl num rfs root own tad (va_up trm k x) tpl wlk ord met msz cur mend pnx pen st coll mins movd (3 * k + 9) = .inr (5, [.int (nI k), .ref (q (3 * k + 10)), .ref (q (3 * k + 11)), .int (nI (tad k)), .int (bI x), .int (nI (tpl k)), .int (nI (wlk k)), .int (nI (ord k))]) := by
    have h1 : cellC cI cT q kp Wn made fl num rfs root own tad (va_up trm k x) tpl wlk ord met msz cur mend pnx pen st coll mins movd (3 * k + 9) = thC cI cT q fl num rfs tad (va_up trm k x) tpl wlk ord (3 * k % 3) (3 * k / 3) := rfl
    rw [h1, show 3 * k % 3 = 0 by omega, show 3 * k / 3 = k by omega]
    simp only [thC, va_up, if_true]
  refine mw_put S inlX6 tyX6 tyX6_ok nmX6 hK hG (hC.th hk) rfl 4 (by decide) in_622 (fun _ h9 => h9) rfl (ty := .boolean) (by decide +kernel) (bI_nar x) (bI_fit x) (Nat.le_of_ble_eq_true rfl) hdg (fun H1 locs1 hG1 => kk _ H1 locs1 (IP.upd (cell2 := cellC cI cT q kp Wn made fl num rfs root own tad (va_up trm k x) tpl wlk ord met msz cur mend pnx pen st coll mins movd) hC (3 * k + 9) (domC_t (r := 0) hk (by decide)) (fun i hi hn => ?_)) ?_)
  · rcases i with _|_|_|_|_|_|_|_|_|i <;> first | rfl | skip
    show thC cI cT q fl num rfs tad (va_up trm k x) tpl wlk ord (i % 3) (i / 3) = thC cI cT q fl num rfs tad trm tpl wlk ord (i % 3) (i / 3)
    rcases (show i % 3 = 0 ∨ i % 3 = 1 ∨ i % 3 = 2 by omega) with h | h | h
    · rw [h]
      have hne : i / 3 ≠ k := fun z => hn (by omega)
      simp only [thC, va_up, if_neg hne]
    · rw [h]; rfl
    · rw [h]; rfl
  · rw [h2]; exact hG1
theorem cg_RX2_102 (S : CallFix p m c cc nL s args wsL RX2) (hK : va_K (dC, dI) vwCl (tyL cI cZ cT) s) (hG : mG (dC, dI) vwCl A H0 w H locs) (hC : CW cI cT q kp Wn made fl num rfs root own tad trm tpl wlk ord met msz cur mend pnx pen st coll mins movd w) (k : Nat) (hk : k < made) (hdg : decode cc pc = .ok (.getfield 102, 3)) (kk : W p l e R s m args below meth c H locs cells slots Q (F0 m (pc + 3) ls (.int (nI (ord k)) :: rest))) : W p l e R s m args below meth c H locs cells slots Q (F0 m pc ls (.ref (tq q k) :: rest)) :=
  mw_get S inlX6 hK hG (hC.th hk) rfl 7 (by decide) in_666 (fun _ h9 => h9) rfl hdg kk
theorem cp_RX2_102 (S : CallFix p m c cc nL s args wsL RX2) (hK : va_K (dC, dI) vwCl (tyL cI cZ cT) s) (hG : mG (dC, dI) vwCl A H0 w H locs) (hC : CW cI cT q kp Wn made fl num rfs root own tad trm tpl wlk ord met msz cur mend pnx pen st coll mins movd w) (k : Nat) (hk : k < made) (x : Nat) (hdg : decode cc pc = .ok (.putfield 102, 3)) (kk : ∀ (w : mM) (H1 : Heap) (locs1 : List Loc), CW cI cT q kp Wn made fl num rfs root own tad trm tpl wlk (va_up ord k x) met msz cur mend pnx pen st coll mins movd w → mG (dC, dI) vwCl A H0 w H1 locs1 → W p l e R s m args below meth c H1 locs1 cells slots Q (F0 m (pc + 3) ls rest)) : W p l e R s m args below meth c H locs cells slots Q (F0 m pc ls (.int (nI x) :: .ref (tq q k) :: rest)) := by
  have h2 : cellC cI cT q kp Wn made fl num rfs root own tad trm tpl wlk (va_up ord k x) met msz cur mend pnx pen st coll mins movd (3 * k + 9) = .inr (5, [.int (nI k), .ref (q (3 * k + 10)), .ref (q (3 * k + 11)), .int (nI (tad k)), .int (bI (trm k)), .int (nI (tpl k)), .int (nI (wlk k)), .int (nI x)]) := by
    have h1 : cellC cI cT q kp Wn made fl num rfs root own tad trm tpl wlk (va_up ord k x) met msz cur mend pnx pen st coll mins movd (3 * k + 9) = thC cI cT q fl num rfs tad trm tpl wlk (va_up ord k x) (3 * k % 3) (3 * k / 3) := rfl
    rw [h1, show 3 * k % 3 = 0 by omega, show 3 * k / 3 = k by omega]
    simp only [thC, va_up, if_true]
  refine mw_put S inlX6 tyX6 tyX6_ok nmX6 hK hG (hC.th hk) rfl 7 (by decide) in_666 (fun _ h9 => h9) rfl (ty := .int) (by decide +kernel) rfl rfl (Nat.le_of_ble_eq_true rfl) hdg (fun H1 locs1 hG1 => kk _ H1 locs1 (IP.upd (cell2 := cellC cI cT q kp Wn made fl num rfs root own tad trm tpl wlk (va_up ord k x) met msz cur mend pnx pen st coll mins movd) hC (3 * k + 9) (domC_t (r := 0) hk (by decide)) (fun i hi hn => ?_)) ?_)
  · rcases i with _|_|_|_|_|_|_|_|_|i <;> first | rfl | skip
    show thC cI cT q fl num rfs tad trm tpl wlk (va_up ord k x) (i % 3) (i / 3) = thC cI cT q fl num rfs tad trm tpl wlk ord (i % 3) (i / 3)
    rcases (show i % 3 = 0 ∨ i % 3 = 1 ∨ i % 3 = 2 by omega) with h | h | h
    · rw [h]
      have hne : i / 3 ≠ k := fun z => hn (by omega)
      simp only [thC, va_up, if_neg hne]
    · rw [h]; rfl
    · rw [h]; rfl
  · rw [h2]; exact hG1
theorem cl_own (S : CallFix p m c cc nL s args wsL ow) (hK : va_K (dC, dI) vwCl (tyL cI cZ cT) s) (hG : mG (dC, dI) vwCl A H0 w H locs) (hC : CW cI cT q kp Wn made fl num rfs root own tad trm tpl wlk ord met msz cur mend pnx pen st coll mins movd w) (j : Nat) (hj : j < Wn) (hW : Wn < 1000) (hdg : decode cc pc = .ok (.aaload, 1)) (kk : W p l e R s m args below meth c H locs cells slots Q (F0 m (pc + 1) ls (va_rf ((own j).map (tq q)) :: rest))) : W p l e R s m args below meth c H locs cells slots Q (F0 m pc ls (.int (nI j) :: .ref (q 2) :: rest)) := by
  refine mw_aald S hK hG 2 hC.aown rfl j hj (nI_clamp (by omega)) (nI_pos (by omega)) hdg ?_
  rw [if_pos hj]
  exact kk
theorem cs_own (S : CallFix p m c cc nL s args wsL ow) (hK : va_K (dC, dI) vwCl (tyL cI cZ cT) s) (hG : mG (dC, dI) vwCl A H0 w H locs) (hC : CW cI cT q kp Wn made fl num rfs root own tad trm tpl wlk ord met msz cur mend pnx pen st coll mins movd w) (j : Nat) (x : Option Nat) (hj : j < Wn) (hx : ∀ t, x = some t → t < made) (hW : Wn < 1000) (hdg : decode cc pc = .ok (.aastore, 1)) (kk : ∀ (w : mM) (H1 : Heap) (locs1 : List Loc), CW cI cT q kp Wn made fl num rfs root (va_up own j x) tad trm tpl wlk ord met msz cur mend pnx pen st coll mins movd w → mG (dC, dI) vwCl A H0 w H1 locs1 → W p l e R s m args below meth c H1 locs1 cells slots Q (F0 m (pc + 1) ls rest)) : W p l e R s m args below meth c H locs cells slots Q (F0 m pc ls (va_rf (x.map (tq q)) :: .int (nI j) :: .ref (q 2) :: rest)) :=
  mw_aastq S hK hG 2 5 (r := (RX6, TX6, 8)) hC.aown rfl (fun y hy => by cases x with | none => cases hy | some t => cases hy; exact ⟨_, hC.th (hx t rfl)⟩) rfl j hj (nI_clamp (by omega)) (nI_pos (by omega)) hdg (fun H1 locs1 hG1 => kk _ H1 locs1 (IP.upd (cell2 := cellC cI cT q kp Wn made fl num rfs root (va_up own j x) tad trm tpl wlk ord met msz cur mend pnx pen st coll mins movd) hC 2 (Or.inl (by decide)) (fun i hi hn => by rcases i with _|_|_|_|_|_|_|_|_|i <;> first | rfl | exact absurd rfl hn)) (by rw [up_trq Wn (tq q) own j hj x] at hG1; exact hG1))
theorem cn_own (S : CallFix p m c cc nL s args wsL ow) (hK : va_K (dC, dI) vwCl (tyL cI cZ cT) s) (hG : mG (dC, dI) vwCl A H0 w H locs) (hC : CW cI cT q kp Wn made fl num rfs root own tad trm tpl wlk ord met msz cur mend pnx pen st coll mins movd w) (hdg : decode cc pc = .ok (.arraylength, 1)) (kk : W p l e R s m args below meth c H locs cells slots Q (F0 m (pc + 1) ls (.int (nI Wn) :: rest))) : W p l e R s m args below meth c H locs cells slots Q (F0 m pc ls (.ref (q 2) :: rest)) :=
  mw_alen S hK hG 2 hC.aown rfl hdg kk
theorem cl_root (S : CallFix p m c cc nL s args wsL ow) (hK : va_K (dC, dI) vwCl (tyL cI cZ cT) s) (hG : mG (dC, dI) vwCl A H0 w H locs) (hC : CW cI cT q kp Wn made fl num rfs root own tad trm tpl wlk ord met msz cur mend pnx pen st coll mins movd w) (j : Nat) (hj : j < 16) (hW : Wn < 1000) (hdg : decode cc pc = .ok (.aaload, 1)) (kk : W p l e R s m args below meth c H locs cells slots Q (F0 m (pc + 1) ls (va_rf ((root j).map (tq q)) :: rest))) : W p l e R s m args below meth c H locs cells slots Q (F0 m pc ls (.int (nI j) :: .ref (q 4) :: rest)) := by
  refine mw_aald S hK hG 2 hC.aroot rfl j hj (nI_clamp (by omega)) (nI_pos (by omega)) hdg ?_
  rw [if_pos hj]
  exact kk
theorem cs_root (S : CallFix p m c cc nL s args wsL ow) (hK : va_K (dC, dI) vwCl (tyL cI cZ cT) s) (hG : mG (dC, dI) vwCl A H0 w H locs) (hC : CW cI cT q kp Wn made fl num rfs root own tad trm tpl wlk ord met msz cur mend pnx pen st coll mins movd w) (j : Nat) (x : Option Nat) (hj : j < 16) (hx : ∀ t, x = some t → t < made) (hW : Wn < 1000) (hdg : decode cc pc = .ok (.aastore, 1)) (kk : ∀ (w : mM) (H1 : Heap) (locs1 : List Loc), CW cI cT q kp Wn made fl num rfs (va_up root j x) own tad trm tpl wlk ord met msz cur mend pnx pen st coll mins movd w → mG (dC, dI) vwCl A H0 w H1 locs1 → W p l e R s m args below meth c H1 locs1 cells slots Q (F0 m (pc + 1) ls rest)) : W p l e R s m args below meth c H locs cells slots Q (F0 m pc ls (va_rf (x.map (tq q)) :: .int (nI j) :: .ref (q 4) :: rest)) :=
  mw_aastq S hK hG 2 5 (r := (RX6, TX6, 8)) hC.aroot rfl (fun y hy => by cases x with | none => cases hy | some t => cases hy; exact ⟨_, hC.th (hx t rfl)⟩) rfl j hj (nI_clamp (by omega)) (nI_pos (by omega)) hdg (fun H1 locs1 hG1 => kk _ H1 locs1 (IP.upd (cell2 := cellC cI cT q kp Wn made fl num rfs (va_up root j x) own tad trm tpl wlk ord met msz cur mend pnx pen st coll mins movd) hC 4 (Or.inl (by decide)) (fun i hi hn => by rcases i with _|_|_|_|_|_|_|_|_|i <;> first | rfl | exact absurd rfl hn)) (by rw [up_trq 16 (tq q) root j hj x] at hG1; exact hG1))
theorem cn_root (S : CallFix p m c cc nL s args wsL ow) (hK : va_K (dC, dI) vwCl (tyL cI cZ cT) s) (hG : mG (dC, dI) vwCl A H0 w H locs) (hC : CW cI cT q kp Wn made fl num rfs root own tad trm tpl wlk ord met msz cur mend pnx pen st coll mins movd w) (hdg : decode cc pc = .ok (.arraylength, 1)) (kk : W p l e R s m args below meth c H locs cells slots Q (F0 m (pc + 1) ls (.int (nI 16) :: rest))) : W p l e R s m args below meth c H locs cells slots Q (F0 m pc ls (.ref (q 4) :: rest)) :=
  mw_alen S hK hG 2 hC.aroot rfl hdg kk
theorem cl_met (S : CallFix p m c cc nL s args wsL ow) (hK : va_K (dC, dI) vwCl (tyL cI cZ cT) s) (hG : mG (dC, dI) vwCl A H0 w H locs) (hC : CW cI cT q kp Wn made fl num rfs root own tad trm tpl wlk ord met msz cur mend pnx pen st coll mins movd w) (j : Nat) (hj : j < Wn) (hW : Wn < 1000) (hdg : decode cc pc = .ok (.aaload, 1)) (kk : W p l e R s m args below meth c H locs cells slots Q (F0 m (pc + 1) ls (va_rf ((met j).map (tq q)) :: rest))) : W p l e R s m args below meth c H locs cells slots Q (F0 m pc ls (.int (nI j) :: .ref (q 7) :: rest)) := by
  refine mw_aald S hK hG 2 hC.amet rfl j hj (nI_clamp (by omega)) (nI_pos (by omega)) hdg ?_
  rw [if_pos hj]
  exact kk
theorem cs_met (S : CallFix p m c cc nL s args wsL ow) (hK : va_K (dC, dI) vwCl (tyL cI cZ cT) s) (hG : mG (dC, dI) vwCl A H0 w H locs) (hC : CW cI cT q kp Wn made fl num rfs root own tad trm tpl wlk ord met msz cur mend pnx pen st coll mins movd w) (j : Nat) (x : Option Nat) (hj : j < Wn) (hx : ∀ t, x = some t → t < made) (hW : Wn < 1000) (hdg : decode cc pc = .ok (.aastore, 1)) (kk : ∀ (w : mM) (H1 : Heap) (locs1 : List Loc), CW cI cT q kp Wn made fl num rfs root own tad trm tpl wlk ord (va_up met j x) msz cur mend pnx pen st coll mins movd w → mG (dC, dI) vwCl A H0 w H1 locs1 → W p l e R s m args below meth c H1 locs1 cells slots Q (F0 m (pc + 1) ls rest)) : W p l e R s m args below meth c H locs cells slots Q (F0 m pc ls (va_rf (x.map (tq q)) :: .int (nI j) :: .ref (q 7) :: rest)) :=
  mw_aastq S hK hG 2 5 (r := (RX6, TX6, 8)) hC.amet rfl (fun y hy => by cases x with | none => cases hy | some t => cases hy; exact ⟨_, hC.th (hx t rfl)⟩) rfl j hj (nI_clamp (by omega)) (nI_pos (by omega)) hdg (fun H1 locs1 hG1 => kk _ H1 locs1 (IP.upd (cell2 := cellC cI cT q kp Wn made fl num rfs root own tad trm tpl wlk ord (va_up met j x) msz cur mend pnx pen st coll mins movd) hC 7 (Or.inl (by decide)) (fun i hi hn => by rcases i with _|_|_|_|_|_|_|_|_|i <;> first | rfl | exact absurd rfl hn)) (by rw [up_trq Wn (tq q) met j hj x] at hG1; exact hG1))
theorem cn_met (S : CallFix p m c cc nL s args wsL ow) (hK : va_K (dC, dI) vwCl (tyL cI cZ cT) s) (hG : mG (dC, dI) vwCl A H0 w H locs) (hC : CW cI cT q kp Wn made fl num rfs root own tad trm tpl wlk ord met msz cur mend pnx pen st coll mins movd w) (hdg : decode cc pc = .ok (.arraylength, 1)) (kk : W p l e R s m args below meth c H locs cells slots Q (F0 m (pc + 1) ls (.int (nI Wn) :: rest))) : W p l e R s m args below meth c H locs cells slots Q (F0 m pc ls (.ref (q 7) :: rest)) :=
  mw_alen S hK hG 2 hC.amet rfl hdg kk
theorem cl_num (S : CallFix p m c cc nL s args wsL ow) (hK : va_K (dC, dI) vwCl (tyL cI cZ cT) s) (hG : mG (dC, dI) vwCl A H0 w H locs) (hC : CW cI cT q kp Wn made fl num rfs root own tad trm tpl wlk ord met msz cur mend pnx pen st coll mins movd w) (k j : Nat) (hk : k < made) (hj : j < fl k) (hf : fl k ≤ 6) (hdg : decode cc pc = .ok (.iaload, 1)) (kk : W p l e R s m args below meth c H locs cells slots Q (F0 m (pc + 1) ls (.int (num k j) :: rest))) : W p l e R s m args below meth c H locs cells slots Q (F0 m pc ls (.int (nI j) :: .ref (q (3 * k + 10)) :: rest)) :=
  mw_iald S hK hG 0 (hC.thn hk) rfl j hj (nI_clamp (by omega)) (nI_pos (by omega)) hdg kk
theorem cl_rfs (S : CallFix p m c cc nL s args wsL ow) (hK : va_K (dC, dI) vwCl (tyL cI cZ cT) s) (hG : mG (dC, dI) vwCl A H0 w H locs) (hC : CW cI cT q kp Wn made fl num rfs root own tad trm tpl wlk ord met msz cur mend pnx pen st coll mins movd w) (k j : Nat) (hk : k < made) (hj : j < fl k) (hf : fl k ≤ 6) (hdg : decode cc pc = .ok (.aaload, 1)) (kk : W p l e R s m args below meth c H locs cells slots Q (F0 m (pc + 1) ls (va_rf ((rfs k j).map (tq q)) :: rest))) : W p l e R s m args below meth c H locs cells slots Q (F0 m pc ls (.int (nI j) :: .ref (q (3 * k + 11)) :: rest)) :=
  mw_aald S hK hG 2 (hC.tht hk) rfl j hj (nI_clamp (by omega)) (nI_pos (by omega)) hdg kk
theorem cn_num (S : CallFix p m c cc nL s args wsL ow) (hK : va_K (dC, dI) vwCl (tyL cI cZ cT) s) (hG : mG (dC, dI) vwCl A H0 w H locs) (hC : CW cI cT q kp Wn made fl num rfs root own tad trm tpl wlk ord met msz cur mend pnx pen st coll mins movd w) (k : Nat) (hk : k < made) (hdg : decode cc pc = .ok (.arraylength, 1)) (kk : W p l e R s m args below meth c H locs cells slots Q (F0 m (pc + 1) ls (.int (nI (fl k)) :: rest))) : W p l e R s m args below meth c H locs cells slots Q (F0 m pc ls (.ref (q (3 * k + 10)) :: rest)) :=
  mw_alen S hK hG 0 (hC.thn hk) rfl hdg kk
theorem cn_rfs (S : CallFix p m c cc nL s args wsL ow) (hK : va_K (dC, dI) vwCl (tyL cI cZ cT) s) (hG : mG (dC, dI) vwCl A H0 w H locs) (hC : CW cI cT q kp Wn made fl num rfs root own tad trm tpl wlk ord met msz cur mend pnx pen st coll mins movd w) (k : Nat) (hk : k < made) (hdg : decode cc pc = .ok (.arraylength, 1)) (kk : W p l e R s m args below meth c H locs cells slots Q (F0 m (pc + 1) ls (.int (nI (fl k)) :: rest))) : W p l e R s m args below meth c H locs cells slots Q (F0 m pc ls (.ref (q (3 * k + 11)) :: rest)) :=
  mw_alen S hK hG 2 (hC.tht hk) rfl hdg kk
theorem cs_num (S : CallFix p m c cc nL s args wsL ow) (hK : va_K (dC, dI) vwCl (tyL cI cZ cT) s) (hG : mG (dC, dI) vwCl A H0 w H locs) (hC : CW cI cT q kp Wn made fl num rfs root own tad trm tpl wlk ord met msz cur mend pnx pen st coll mins movd w) (k j : Nat) (x : Int32) (hk : k < made) (hj : j < fl k) (hf : fl k ≤ 6) (hdg : decode cc pc = .ok (.iastore, 1)) (kk : ∀ (w : mM) (H1 : Heap) (locs1 : List Loc), CW cI cT q kp Wn made fl (up2 num k j x) rfs root own tad trm tpl wlk ord met msz cur mend pnx pen st coll mins movd w → mG (dC, dI) vwCl A H0 w H1 locs1 → W p l e R s m args below meth c H1 locs1 cells slots Q (F0 m (pc + 1) ls rest)) : W p l e R s m args below meth c H locs cells slots Q (F0 m pc ls (.int x :: .int (nI j) :: .ref (q (3 * k + 10)) :: rest)) := by
  have h2 : cellC cI cT q kp Wn made fl (up2 num k j x) rfs root own tad trm tpl wlk ord met msz cur mend pnx pen st coll mins movd (3 * k + 10) = .inl (cI, fl k, .inl (fun i => (up2 num k j x) k i)) := by
    have h1 : cellC cI cT q kp Wn made fl (up2 num k j x) rfs root own tad trm tpl wlk ord met msz cur mend pnx pen st coll mins movd (3 * k + 10) = thC cI cT q fl (up2 num k j x) rfs tad trm tpl wlk ord ((3 * k + 1) % 3) ((3 * k + 1) / 3) := rfl
    rw [h1, show (3 * k + 1) % 3 = 1 by omega, show (3 * k + 1) / 3 = k by omega]
    rfl
  refine mw_iast S hK hG 0 (hC.thn hk) rfl j hj (nI_clamp (by omega)) (nI_pos (by omega)) hdg (fun H1 locs1 hG1 => kk _ H1 locs1 (IP.upd (cell2 := cellC cI cT q kp Wn made fl (up2 num k j x) rfs root own tad trm tpl wlk ord met msz cur mend pnx pen st coll mins movd) hC (3 * k + 10) (domC_t (r := 1) hk (by decide)) (fun i hi hn => ?_)) ?_)
  · rcases i with _|_|_|_|_|_|_|_|_|i <;> first | rfl | skip
    show thC cI cT q fl (up2 num k j x) rfs tad trm tpl wlk ord (i % 3) (i / 3) = thC cI cT q fl num rfs tad trm tpl wlk ord (i % 3) (i / 3)
    rcases (show i % 3 = 0 ∨ i % 3 = 1 ∨ i % 3 = 2 by omega) with h | h | h
    · rw [h]; rfl
    · rw [h]
      have hne : i / 3 ≠ k := fun z => hn (by omega)
      simp only [thC, up2, hne, false_and, if_false]
    · rw [h]
      rfl
  · rw [h2]
    have h3 : va_up (fun i => num k i) j x = fun i => (up2 num k j x) k i := by
      funext i
      simp only [va_up, up2, true_and]
    rw [h3] at hG1
    exact hG1
theorem cs_rfs (S : CallFix p m c cc nL s args wsL ow) (hK : va_K (dC, dI) vwCl (tyL cI cZ cT) s) (hG : mG (dC, dI) vwCl A H0 w H locs) (hC : CW cI cT q kp Wn made fl num rfs root own tad trm tpl wlk ord met msz cur mend pnx pen st coll mins movd w) (k j : Nat) (x : Option Nat) (hk : k < made) (hj : j < fl k) (hf : fl k ≤ 6) (hx : ∀ t, x = some t → t < made) (hdg : decode cc pc = .ok (.aastore, 1)) (kk : ∀ (w : mM) (H1 : Heap) (locs1 : List Loc), CW cI cT q kp Wn made fl num (up2 rfs k j x) root own tad trm tpl wlk ord met msz cur mend pnx pen st coll mins movd w → mG (dC, dI) vwCl A H0 w H1 locs1 → W p l e R s m args below meth c H1 locs1 cells slots Q (F0 m (pc + 1) ls rest)) : W p l e R s m args below meth c H locs cells slots Q (F0 m pc ls (va_rf (x.map (tq q)) :: .int (nI j) :: .ref (q (3 * k + 11)) :: rest)) := by
  have h2 : cellC cI cT q kp Wn made fl num (up2 rfs k j x) root own tad trm tpl wlk ord met msz cur mend pnx pen st coll mins movd (3 * k + 11) = .inl (cT, fl k, .inr (.inr (.inr (.inr (fun i => ((up2 rfs k j x) k i).map (tq q)))))) := by
    have h1 : cellC cI cT q kp Wn made fl num (up2 rfs k j x) root own tad trm tpl wlk ord met msz cur mend pnx pen st coll mins movd (3 * k + 11) = thC cI cT q fl num (up2 rfs k j x) tad trm tpl wlk ord ((3 * k + 2) % 3) ((3 * k + 2) / 3) := rfl
    rw [h1, show (3 * k + 2) % 3 = 2 by omega, show (3 * k + 2) / 3 = k by omega]
    rfl
  refine mw_aastq S hK hG 2 5 (r := (RX6, TX6, 8)) (hC.tht hk) rfl (fun y hy => by cases x with | none => cases hy | some t => cases hy; exact ⟨_, hC.th (hx t rfl)⟩) rfl j hj (nI_clamp (by omega)) (nI_pos (by omega)) hdg (fun H1 locs1 hG1 => kk _ H1 locs1 (IP.upd (cell2 := cellC cI cT q kp Wn made fl num (up2 rfs k j x) root own tad trm tpl wlk ord met msz cur mend pnx pen st coll mins movd) hC (3 * k + 11) (domC_t (r := 2) hk (by decide)) (fun i hi hn => ?_)) ?_)
  · rcases i with _|_|_|_|_|_|_|_|_|i <;> first | rfl | skip
    show thC cI cT q fl num (up2 rfs k j x) tad trm tpl wlk ord (i % 3) (i / 3) = thC cI cT q fl num rfs tad trm tpl wlk ord (i % 3) (i / 3)
    rcases (show i % 3 = 0 ∨ i % 3 = 1 ∨ i % 3 = 2 by omega) with h | h | h
    · rw [h]; rfl
    · rw [h]
      rfl
    · rw [h]
      have hne : i / 3 ≠ k := fun z => hn (by omega)
      simp only [thC, up2, hne, false_and, if_false]
  · rw [h2]
    have h3 : va_up (fun i => (rfs k i).map (tq q)) j (x.map (tq q)) = fun i => ((up2 rfs k j x) k i).map (tq q) := by
      funext i
      simp only [va_up, up2, true_and]
      split <;> rfl
    rw [h3] at hG1
    exact hG1
end CC
