/-! THE REFERENCE: its state as a tuple, its world, and a rule for each field and array -/
def oI (o : Option Nat) : Int32 := match o with | none => -1 | some k => nI k
def bI (b : Bool) : Int32 := match b with | false => 0 | true => 1
theorem oI_m1 {o : Option Nat} (ho : ∀ k, o = some k → k < 2147483648) : oI o = -1 ↔ o = none := by
  cases o with
  | none => exact ⟨fun _ => rfl, fun _ => rfl⟩
  | some k =>
    refine ⟨fun h => ?_, fun h => by cases h⟩
    have hk := ho k rfl
    have h1 : nI k = -1 := h
    have h2 := nI_toInt hk
    rw [h1] at h2
    have h3 : ((-1 : Int32)).toInt = -1 := by decide
    rw [h3] at h2
    omega
theorem bI_0 (b : Bool) : bI b = 0 ↔ b = false := by cases b <;> decide
theorem up_map {α β : Type} (g : α → β) (f : Nat → α) (j : Nat) (v : α) : va_up (fun k => g (f k)) j (g v) = fun k => g (va_up f j v k) := by
  funext k
  unfold va_up
  split <;> rfl
def up2 {α : Type} (f : Nat → Nat → α) (a b : Nat) (v : α) : Nat → Nat → α := fun x y => if x = a ∧ y = b then v else f x y
theorem up_flat {α β : Type} (g : α → β) (f : Nat → Nat → α) (a i : Nat) (hi : i < 6) (v : α) : va_up (fun x => g (f (x / 6) (x % 6))) (6 * a + i) (g v) = fun x => g (up2 f a i v (x / 6) (x % 6)) := by
  funext x
  unfold va_up up2
  by_cases h : x = 6 * a + i
  · rw [if_pos h, if_pos ⟨by omega, by omega⟩]
  · rw [if_neg h, if_neg (fun z => h (by omega))]
def IW (q : Nat → Nat) (n : Nat) (cell : Nat → va_E) (w : mM) : Prop := (∀ i, i < n → w (q i) = some (cell i)) ∧ ∀ i j, i < n → j < n → q i = q j → i = j
theorem IW.upd {q : Nat → Nat} {n : Nat} {cell cell2 : Nat → va_E} {w : mM} (h : IW q n cell w) (i0 : Nat) (hi : i0 < n) (h2 : ∀ i, i < n → i ≠ i0 → cell2 i = cell i) : IW q n cell2 (mU w (q i0) (cell2 i0)) := by
  refine ⟨fun i hi2 => ?_, h.2⟩
  by_cases e : i = i0
  · subst e
    exact mU_s _ _ _
  · rw [mU_n (fun z => e (h.2 i i0 hi2 hi z)), h2 i hi2 e]
    exact h.1 i hi2
abbrev rS : Type := Int32 × Nat × Nat × Nat × (Nat → Option Nat) × (Nat → Nat) × (Nat → Bool) × (Nat → Nat → Int32) × (Nat → Nat → Option Nat) × (Nat → Option Nat) × (Nat → Option Nat) × Nat × Nat × Nat × Nat × Nat × Nat × (Nat → Nat) × (Nat → Option Nat) × (Nat → Option Nat)
def rS.thr (σ : rS) : Int32 := σ.1
def rS.kp (σ : rS) : Nat := σ.2.1
def rS.W (σ : rS) : Nat := σ.2.2.1
def rS.made (σ : rS) : Nat := σ.2.2.2.1
def rS.adr (σ : rS) : (Nat → Option Nat) := σ.2.2.2.2.1
def rS.fl (σ : rS) : (Nat → Nat) := σ.2.2.2.2.2.1
def rS.rem (σ : rS) : (Nat → Bool) := σ.2.2.2.2.2.2.1
def rS.num (σ : rS) : (Nat → Nat → Int32) := σ.2.2.2.2.2.2.2.1
def rS.rfs (σ : rS) : (Nat → Nat → Option Nat) := σ.2.2.2.2.2.2.2.2.1
def rS.root (σ : rS) : (Nat → Option Nat) := σ.2.2.2.2.2.2.2.2.2.1
def rS.own (σ : rS) : (Nat → Option Nat) := σ.2.2.2.2.2.2.2.2.2.2.1
def rS.half (σ : rS) : Nat := σ.2.2.2.2.2.2.2.2.2.2.2.1
def rS.top (σ : rS) : Nat := σ.2.2.2.2.2.2.2.2.2.2.2.2.1
def rS.coll (σ : rS) : Nat := σ.2.2.2.2.2.2.2.2.2.2.2.2.2.1
def rS.mins (σ : rS) : Nat := σ.2.2.2.2.2.2.2.2.2.2.2.2.2.2.1
def rS.movd (σ : rS) : Nat := σ.2.2.2.2.2.2.2.2.2.2.2.2.2.2.2.1
def rS.size (σ : rS) : Nat := σ.2.2.2.2.2.2.2.2.2.2.2.2.2.2.2.2.1
def rS.row (σ : rS) : (Nat → Nat) := σ.2.2.2.2.2.2.2.2.2.2.2.2.2.2.2.2.2.1
def rS.plc (σ : rS) : (Nat → Option Nat) := σ.2.2.2.2.2.2.2.2.2.2.2.2.2.2.2.2.2.2.1
def rS.old (σ : rS) : (Nat → Option Nat) := σ.2.2.2.2.2.2.2.2.2.2.2.2.2.2.2.2.2.2.2
def rS.setThr (σ : rS) (x : Int32) : rS := (x, σ.kp, σ.W, σ.made, σ.adr, σ.fl, σ.rem, σ.num, σ.rfs, σ.root, σ.own, σ.half, σ.top, σ.coll, σ.mins, σ.movd, σ.size, σ.row, σ.plc, σ.old)
def rS.setKp (σ : rS) (x : Nat) : rS := (σ.thr, x, σ.W, σ.made, σ.adr, σ.fl, σ.rem, σ.num, σ.rfs, σ.root, σ.own, σ.half, σ.top, σ.coll, σ.mins, σ.movd, σ.size, σ.row, σ.plc, σ.old)
def rS.setW (σ : rS) (x : Nat) : rS := (σ.thr, σ.kp, x, σ.made, σ.adr, σ.fl, σ.rem, σ.num, σ.rfs, σ.root, σ.own, σ.half, σ.top, σ.coll, σ.mins, σ.movd, σ.size, σ.row, σ.plc, σ.old)
def rS.setMade (σ : rS) (x : Nat) : rS := (σ.thr, σ.kp, σ.W, x, σ.adr, σ.fl, σ.rem, σ.num, σ.rfs, σ.root, σ.own, σ.half, σ.top, σ.coll, σ.mins, σ.movd, σ.size, σ.row, σ.plc, σ.old)
def rS.setAdr (σ : rS) (x : (Nat → Option Nat)) : rS := (σ.thr, σ.kp, σ.W, σ.made, x, σ.fl, σ.rem, σ.num, σ.rfs, σ.root, σ.own, σ.half, σ.top, σ.coll, σ.mins, σ.movd, σ.size, σ.row, σ.plc, σ.old)
def rS.setFl (σ : rS) (x : (Nat → Nat)) : rS := (σ.thr, σ.kp, σ.W, σ.made, σ.adr, x, σ.rem, σ.num, σ.rfs, σ.root, σ.own, σ.half, σ.top, σ.coll, σ.mins, σ.movd, σ.size, σ.row, σ.plc, σ.old)
def rS.setRem (σ : rS) (x : (Nat → Bool)) : rS := (σ.thr, σ.kp, σ.W, σ.made, σ.adr, σ.fl, x, σ.num, σ.rfs, σ.root, σ.own, σ.half, σ.top, σ.coll, σ.mins, σ.movd, σ.size, σ.row, σ.plc, σ.old)
def rS.setNum (σ : rS) (x : (Nat → Nat → Int32)) : rS := (σ.thr, σ.kp, σ.W, σ.made, σ.adr, σ.fl, σ.rem, x, σ.rfs, σ.root, σ.own, σ.half, σ.top, σ.coll, σ.mins, σ.movd, σ.size, σ.row, σ.plc, σ.old)
def rS.setRfs (σ : rS) (x : (Nat → Nat → Option Nat)) : rS := (σ.thr, σ.kp, σ.W, σ.made, σ.adr, σ.fl, σ.rem, σ.num, x, σ.root, σ.own, σ.half, σ.top, σ.coll, σ.mins, σ.movd, σ.size, σ.row, σ.plc, σ.old)
def rS.setRoot (σ : rS) (x : (Nat → Option Nat)) : rS := (σ.thr, σ.kp, σ.W, σ.made, σ.adr, σ.fl, σ.rem, σ.num, σ.rfs, x, σ.own, σ.half, σ.top, σ.coll, σ.mins, σ.movd, σ.size, σ.row, σ.plc, σ.old)
def rS.setOwn (σ : rS) (x : (Nat → Option Nat)) : rS := (σ.thr, σ.kp, σ.W, σ.made, σ.adr, σ.fl, σ.rem, σ.num, σ.rfs, σ.root, x, σ.half, σ.top, σ.coll, σ.mins, σ.movd, σ.size, σ.row, σ.plc, σ.old)
def rS.setHalf (σ : rS) (x : Nat) : rS := (σ.thr, σ.kp, σ.W, σ.made, σ.adr, σ.fl, σ.rem, σ.num, σ.rfs, σ.root, σ.own, x, σ.top, σ.coll, σ.mins, σ.movd, σ.size, σ.row, σ.plc, σ.old)
def rS.setTop (σ : rS) (x : Nat) : rS := (σ.thr, σ.kp, σ.W, σ.made, σ.adr, σ.fl, σ.rem, σ.num, σ.rfs, σ.root, σ.own, σ.half, x, σ.coll, σ.mins, σ.movd, σ.size, σ.row, σ.plc, σ.old)
def rS.setColl (σ : rS) (x : Nat) : rS := (σ.thr, σ.kp, σ.W, σ.made, σ.adr, σ.fl, σ.rem, σ.num, σ.rfs, σ.root, σ.own, σ.half, σ.top, x, σ.mins, σ.movd, σ.size, σ.row, σ.plc, σ.old)
def rS.setMins (σ : rS) (x : Nat) : rS := (σ.thr, σ.kp, σ.W, σ.made, σ.adr, σ.fl, σ.rem, σ.num, σ.rfs, σ.root, σ.own, σ.half, σ.top, σ.coll, x, σ.movd, σ.size, σ.row, σ.plc, σ.old)
def rS.setMovd (σ : rS) (x : Nat) : rS := (σ.thr, σ.kp, σ.W, σ.made, σ.adr, σ.fl, σ.rem, σ.num, σ.rfs, σ.root, σ.own, σ.half, σ.top, σ.coll, σ.mins, x, σ.size, σ.row, σ.plc, σ.old)
def rS.setSize (σ : rS) (x : Nat) : rS := (σ.thr, σ.kp, σ.W, σ.made, σ.adr, σ.fl, σ.rem, σ.num, σ.rfs, σ.root, σ.own, σ.half, σ.top, σ.coll, σ.mins, σ.movd, x, σ.row, σ.plc, σ.old)
def rS.setRow (σ : rS) (x : (Nat → Nat)) : rS := (σ.thr, σ.kp, σ.W, σ.made, σ.adr, σ.fl, σ.rem, σ.num, σ.rfs, σ.root, σ.own, σ.half, σ.top, σ.coll, σ.mins, σ.movd, σ.size, x, σ.plc, σ.old)
def rS.setPlc (σ : rS) (x : (Nat → Option Nat)) : rS := (σ.thr, σ.kp, σ.W, σ.made, σ.adr, σ.fl, σ.rem, σ.num, σ.rfs, σ.root, σ.own, σ.half, σ.top, σ.coll, σ.mins, σ.movd, σ.size, σ.row, x, σ.old)
def rS.setOld (σ : rS) (x : (Nat → Option Nat)) : rS := (σ.thr, σ.kp, σ.W, σ.made, σ.adr, σ.fl, σ.rem, σ.num, σ.rfs, σ.root, σ.own, σ.half, σ.top, σ.coll, σ.mins, σ.movd, σ.size, σ.row, σ.plc, x)
def objR (q : Nat → Nat) (σ : rS) : List Value := [.int σ.thr, .int (nI σ.kp), .int (nI σ.W), .int (nI σ.made), .ref (q 1), .ref (q 2), .ref (q 3), .ref (q 4), .ref (q 5), .ref (q 6), .ref (q 7), .int (nI σ.half), .int (nI σ.top), .int (nI σ.coll), .int (nI σ.mins), .int (nI σ.movd), .int (nI σ.size), .ref (q 8), .ref (q 9), .ref (q 10)]
def cellR (cI cZ : ClassId) (q : Nat → Nat) (σ : rS) : Nat → va_E
  | 0 => .inr (9, objR q σ)
  | 1 => .inl (cI, 2000, .inl (fun k => oI (σ.adr k)))
  | 2 => .inl (cI, 2000, .inl (fun k => nI (σ.fl k)))
  | 3 => .inl (cZ, 2000, .inl (fun k => bI (σ.rem k)))
  | 4 => .inl (cI, 12000, .inl (fun k => σ.num (k / 6) (k % 6)))
  | 5 => .inl (cI, 12000, .inl (fun k => oI (σ.rfs (k / 6) (k % 6))))
  | 6 => .inl (cI, 16, .inl (fun k => oI (σ.root k)))
  | 7 => .inl (cI, 400, .inl (fun k => oI (σ.own k)))
  | 8 => .inl (cI, 400, .inl (fun k => nI (σ.row k)))
  | 9 => .inl (cI, 2000, .inl (fun k => oI (σ.plc k)))
  | _ => .inl (cI, 400, .inl (fun k => oI (σ.old k)))
abbrev RW (cI cZ : ClassId) (q : Nat → Nat) (σ : rS) (w : mM) : Prop := IW q 11 (cellR cI cZ q σ) w
abbrev tyL (cI cZ cT : ClassId) : List (ClassId × FieldType) := [(cI, .int), (cZ, .boolean), (cT, .object RX6)]
theorem bI_nar (b : Bool) : narrow .boolean (.int (bI b)) = .int (bI b) := by cases b <;> rfl
theorem bI_vp (b : Bool) : vp_nar .boolean (bI b) = bI b := by cases b <;> rfl
section RR
variable {p : Program} {l : Launch} {e : Env} {R : Room} {s : State} {m : MethodId} {args : Array Value} {below : List Frame} {meth : Method} {c : Code} {H : Heap} {locs : List Loc} {cells slots : Nat} {Q : State → Prop}
variable {cc : ByteArray} {pc nL : Nat} {ls : Array Slot} {rest st0 : List Value} {dC : Nat → ClassId} {dI : Nat → Nat → Nat} {A : Nat → Prop} {w : mM} {H0 : Heap} {cI cZ cT : ClassId} {q : Nat → Nat} {σ : rS}
theorem RW.obj (hR : RW cI cZ q σ w) : w (q 0) = some (.inr (9, objR q σ)) := hR.1 0 (by decide)
theorem RW.aadr (hR : RW cI cZ q σ w) : w (q 1) = some (.inl (cI, 2000, .inl (fun k => oI (σ.adr k)))) := hR.1 1 (by decide)
theorem RW.afl (hR : RW cI cZ q σ w) : w (q 2) = some (.inl (cI, 2000, .inl (fun k => nI (σ.fl k)))) := hR.1 2 (by decide)
theorem RW.arem (hR : RW cI cZ q σ w) : w (q 3) = some (.inl (cZ, 2000, .inl (fun k => bI (σ.rem k)))) := hR.1 3 (by decide)
theorem RW.anum (hR : RW cI cZ q σ w) : w (q 4) = some (.inl (cI, 12000, .inl (fun k => σ.num (k / 6) (k % 6)))) := hR.1 4 (by decide)
theorem RW.arfs (hR : RW cI cZ q σ w) : w (q 5) = some (.inl (cI, 12000, .inl (fun k => oI (σ.rfs (k / 6) (k % 6))))) := hR.1 5 (by decide)
theorem RW.aroot (hR : RW cI cZ q σ w) : w (q 6) = some (.inl (cI, 16, .inl (fun k => oI (σ.root k)))) := hR.1 6 (by decide)
theorem RW.aown (hR : RW cI cZ q σ w) : w (q 7) = some (.inl (cI, 400, .inl (fun k => oI (σ.own k)))) := hR.1 7 (by decide)
theorem RW.arow (hR : RW cI cZ q σ w) : w (q 8) = some (.inl (cI, 400, .inl (fun k => nI (σ.row k)))) := hR.1 8 (by decide)
theorem RW.aplc (hR : RW cI cZ q σ w) : w (q 9) = some (.inl (cI, 2000, .inl (fun k => oI (σ.plc k)))) := hR.1 9 (by decide)
theorem RW.aold (hR : RW cI cZ q σ w) : w (q 10) = some (.inl (cI, 400, .inl (fun k => oI (σ.old k)))) := hR.1 10 (by decide)
theorem rg_thr (S : CallFix p m c cc nL s args wsL RX10) (hK : va_K (dC, dI) vwCl (tyL cI cZ cT) s) (hG : mG (dC, dI) vwCl A H0 w H locs) (hR : RW cI cZ q σ w) (hdg : decode cc pc = .ok (.getfield 48, 3)) (kk : W p l e R s m args below meth c H locs cells slots Q (F0 m (pc + 3) ls (.int σ.thr :: rest))) : W p l e R s m args below meth c H locs cells slots Q (F0 m pc ls (.ref (q 0) :: rest)) :=
  mw_get S inlX10 hK hG hR.obj rfl 0 (by decide) in_379 (fun _ h9 => h9) rfl hdg kk
theorem rp_thr (S : CallFix p m c cc nL s args wsL RX10) (hK : va_K (dC, dI) vwCl (tyL cI cZ cT) s) (hG : mG (dC, dI) vwCl A H0 w H locs) (hR : RW cI cZ q σ w) (x : Int32) (hdg : decode cc pc = .ok (.putfield 48, 3)) (kk : ∀ (w : mM) (H1 : Heap) (locs1 : List Loc), RW cI cZ q (σ.setThr x) w → mG (dC, dI) vwCl A H0 w H1 locs1 → W p l e R s m args below meth c H1 locs1 cells slots Q (F0 m (pc + 3) ls rest)) : W p l e R s m args below meth c H locs cells slots Q (F0 m pc ls (.int (x) :: .ref (q 0) :: rest)) :=
  mw_put S inlX10 tyX10 tyX10_ok nmX10 hK hG hR.obj rfl 0 (by decide) in_379 (fun _ h9 => h9) rfl (ty := .int) (by decide +kernel) rfl rfl (Nat.le_of_ble_eq_true rfl) hdg (fun H1 locs1 hG1 => kk _ H1 locs1 (IW.upd (cell2 := cellR cI cZ q (σ.setThr x)) hR 0 (by decide) (fun i hi hn => by rcases i with _|_|_|_|_|_|_|_|_|_|_|i <;> first | rfl | exact absurd rfl hn | (exfalso; omega))) hG1)
theorem rg_kp (S : CallFix p m c cc nL s args wsL RX10) (hK : va_K (dC, dI) vwCl (tyL cI cZ cT) s) (hG : mG (dC, dI) vwCl A H0 w H locs) (hR : RW cI cZ q σ w) (hdg : decode cc pc = .ok (.getfield 41, 3)) (kk : W p l e R s m args below meth c H locs cells slots Q (F0 m (pc + 3) ls (.int (nI σ.kp) :: rest))) : W p l e R s m args below meth c H locs cells slots Q (F0 m pc ls (.ref (q 0) :: rest)) :=
  mw_get S inlX10 hK hG hR.obj rfl 1 (by decide) in_134 (fun _ h9 => h9) rfl hdg kk
theorem rg_W (S : CallFix p m c cc nL s args wsL RX10) (hK : va_K (dC, dI) vwCl (tyL cI cZ cT) s) (hG : mG (dC, dI) vwCl A H0 w H locs) (hR : RW cI cZ q σ w) (hdg : decode cc pc = .ok (.getfield 45, 3)) (kk : W p l e R s m args below meth c H locs cells slots Q (F0 m (pc + 3) ls (.int (nI σ.W) :: rest))) : W p l e R s m args below meth c H locs cells slots Q (F0 m pc ls (.ref (q 0) :: rest)) :=
  mw_get S inlX10 hK hG hR.obj rfl 2 (by decide) in_135 (fun _ h9 => h9) rfl hdg kk
theorem rg_made (S : CallFix p m c cc nL s args wsL RX10) (hK : va_K (dC, dI) vwCl (tyL cI cZ cT) s) (hG : mG (dC, dI) vwCl A H0 w H locs) (hR : RW cI cZ q σ w) (hdg : decode cc pc = .ok (.getfield 62, 3)) (kk : W p l e R s m args below meth c H locs cells slots Q (F0 m (pc + 3) ls (.int (nI σ.made) :: rest))) : W p l e R s m args below meth c H locs cells slots Q (F0 m pc ls (.ref (q 0) :: rest)) :=
  mw_get S inlX10 hK hG hR.obj rfl 3 (by decide) in_380 (fun _ h9 => h9) rfl hdg kk
theorem rp_made (S : CallFix p m c cc nL s args wsL RX10) (hK : va_K (dC, dI) vwCl (tyL cI cZ cT) s) (hG : mG (dC, dI) vwCl A H0 w H locs) (hR : RW cI cZ q σ w) (x : Nat) (hdg : decode cc pc = .ok (.putfield 62, 3)) (kk : ∀ (w : mM) (H1 : Heap) (locs1 : List Loc), RW cI cZ q (σ.setMade x) w → mG (dC, dI) vwCl A H0 w H1 locs1 → W p l e R s m args below meth c H1 locs1 cells slots Q (F0 m (pc + 3) ls rest)) : W p l e R s m args below meth c H locs cells slots Q (F0 m pc ls (.int (nI x) :: .ref (q 0) :: rest)) :=
  mw_put S inlX10 tyX10 tyX10_ok nmX10 hK hG hR.obj rfl 3 (by decide) in_380 (fun _ h9 => h9) rfl (ty := .int) (by decide +kernel) rfl rfl (Nat.le_of_ble_eq_true rfl) hdg (fun H1 locs1 hG1 => kk _ H1 locs1 (IW.upd (cell2 := cellR cI cZ q (σ.setMade x)) hR 0 (by decide) (fun i hi hn => by rcases i with _|_|_|_|_|_|_|_|_|_|_|i <;> first | rfl | exact absurd rfl hn | (exfalso; omega))) hG1)
theorem rg_adr (S : CallFix p m c cc nL s args wsL RX10) (hK : va_K (dC, dI) vwCl (tyL cI cZ cT) s) (hG : mG (dC, dI) vwCl A H0 w H locs) (hR : RW cI cZ q σ w) (hdg : decode cc pc = .ok (.getfield 7, 3)) (kk : W p l e R s m args below meth c H locs cells slots Q (F0 m (pc + 3) ls (.ref (q 1) :: rest))) : W p l e R s m args below meth c H locs cells slots Q (F0 m pc ls (.ref (q 0) :: rest)) :=
  mw_get S inlX10 hK hG hR.obj rfl 4 (by decide) in_123 (fun _ h9 => h9) rfl hdg kk
theorem rg_fl (S : CallFix p m c cc nL s args wsL RX10) (hK : va_K (dC, dI) vwCl (tyL cI cZ cT) s) (hG : mG (dC, dI) vwCl A H0 w H locs) (hR : RW cI cZ q σ w) (hdg : decode cc pc = .ok (.getfield 13, 3)) (kk : W p l e R s m args below meth c H locs cells slots Q (F0 m (pc + 3) ls (.ref (q 2) :: rest))) : W p l e R s m args below meth c H locs cells slots Q (F0 m pc ls (.ref (q 0) :: rest)) :=
  mw_get S inlX10 hK hG hR.obj rfl 5 (by decide) in_124 (fun _ h9 => h9) rfl hdg kk
theorem rg_rem (S : CallFix p m c cc nL s args wsL RX10) (hK : va_K (dC, dI) vwCl (tyL cI cZ cT) s) (hG : mG (dC, dI) vwCl A H0 w H locs) (hR : RW cI cZ q σ w) (hdg : decode cc pc = .ok (.getfield 16, 3)) (kk : W p l e R s m args below meth c H locs cells slots Q (F0 m (pc + 3) ls (.ref (q 3) :: rest))) : W p l e R s m args below meth c H locs cells slots Q (F0 m pc ls (.ref (q 0) :: rest)) :=
  mw_get S inlX10 hK hG hR.obj rfl 6 (by decide) in_126 (fun _ h9 => h9) rfl hdg kk
theorem rg_num (S : CallFix p m c cc nL s args wsL RX10) (hK : va_K (dC, dI) vwCl (tyL cI cZ cT) s) (hG : mG (dC, dI) vwCl A H0 w H locs) (hR : RW cI cZ q σ w) (hdg : decode cc pc = .ok (.getfield 20, 3)) (kk : W p l e R s m args below meth c H locs cells slots Q (F0 m (pc + 3) ls (.ref (q 4) :: rest))) : W p l e R s m args below meth c H locs cells slots Q (F0 m pc ls (.ref (q 0) :: rest)) :=
  mw_get S inlX10 hK hG hR.obj rfl 7 (by decide) in_127 (fun _ h9 => h9) rfl hdg kk
theorem rg_rfs (S : CallFix p m c cc nL s args wsL RX10) (hK : va_K (dC, dI) vwCl (tyL cI cZ cT) s) (hG : mG (dC, dI) vwCl A H0 w H locs) (hR : RW cI cZ q σ w) (hdg : decode cc pc = .ok (.getfield 23, 3)) (kk : W p l e R s m args below meth c H locs cells slots Q (F0 m (pc + 3) ls (.ref (q 5) :: rest))) : W p l e R s m args below meth c H locs cells slots Q (F0 m pc ls (.ref (q 0) :: rest)) :=
  mw_get S inlX10 hK hG hR.obj rfl 8 (by decide) in_128 (fun _ h9 => h9) rfl hdg kk
theorem rg_root (S : CallFix p m c cc nL s args wsL RX10) (hK : va_K (dC, dI) vwCl (tyL cI cZ cT) s) (hG : mG (dC, dI) vwCl A H0 w H locs) (hR : RW cI cZ q σ w) (hdg : decode cc pc = .ok (.getfield 26, 3)) (kk : W p l e R s m args below meth c H locs cells slots Q (F0 m (pc + 3) ls (.ref (q 6) :: rest))) : W p l e R s m args below meth c H locs cells slots Q (F0 m pc ls (.ref (q 0) :: rest)) :=
  mw_get S inlX10 hK hG hR.obj rfl 9 (by decide) in_129 (fun _ h9 => h9) rfl hdg kk
theorem rg_own (S : CallFix p m c cc nL s args wsL RX10) (hK : va_K (dC, dI) vwCl (tyL cI cZ cT) s) (hG : mG (dC, dI) vwCl A H0 w H locs) (hR : RW cI cZ q σ w) (hdg : decode cc pc = .ok (.getfield 29, 3)) (kk : W p l e R s m args below meth c H locs cells slots Q (F0 m (pc + 3) ls (.ref (q 7) :: rest))) : W p l e R s m args below meth c H locs cells slots Q (F0 m pc ls (.ref (q 0) :: rest)) :=
  mw_get S inlX10 hK hG hR.obj rfl 10 (by decide) in_130 (fun _ h9 => h9) rfl hdg kk
theorem rg_half (S : CallFix p m c cc nL s args wsL RX10) (hK : va_K (dC, dI) vwCl (tyL cI cZ cT) s) (hG : mG (dC, dI) vwCl A H0 w H locs) (hR : RW cI cZ q σ w) (hdg : decode cc pc = .ok (.getfield 88, 3)) (kk : W p l e R s m args below meth c H locs cells slots Q (F0 m (pc + 3) ls (.int (nI σ.half) :: rest))) : W p l e R s m args below meth c H locs cells slots Q (F0 m pc ls (.ref (q 0) :: rest)) :=
  mw_get S inlX10 hK hG hR.obj rfl 11 (by decide) in_392 (fun _ h9 => h9) rfl hdg kk
theorem rp_half (S : CallFix p m c cc nL s args wsL RX10) (hK : va_K (dC, dI) vwCl (tyL cI cZ cT) s) (hG : mG (dC, dI) vwCl A H0 w H locs) (hR : RW cI cZ q σ w) (x : Nat) (hdg : decode cc pc = .ok (.putfield 88, 3)) (kk : ∀ (w : mM) (H1 : Heap) (locs1 : List Loc), RW cI cZ q (σ.setHalf x) w → mG (dC, dI) vwCl A H0 w H1 locs1 → W p l e R s m args below meth c H1 locs1 cells slots Q (F0 m (pc + 3) ls rest)) : W p l e R s m args below meth c H locs cells slots Q (F0 m pc ls (.int (nI x) :: .ref (q 0) :: rest)) :=
  mw_put S inlX10 tyX10 tyX10_ok nmX10 hK hG hR.obj rfl 11 (by decide) in_392 (fun _ h9 => h9) rfl (ty := .int) (by decide +kernel) rfl rfl (Nat.le_of_ble_eq_true rfl) hdg (fun H1 locs1 hG1 => kk _ H1 locs1 (IW.upd (cell2 := cellR cI cZ q (σ.setHalf x)) hR 0 (by decide) (fun i hi hn => by rcases i with _|_|_|_|_|_|_|_|_|_|_|i <;> first | rfl | exact absurd rfl hn | (exfalso; omega))) hG1)
theorem rg_top (S : CallFix p m c cc nL s args wsL RX10) (hK : va_K (dC, dI) vwCl (tyL cI cZ cT) s) (hG : mG (dC, dI) vwCl A H0 w H locs) (hR : RW cI cZ q σ w) (hdg : decode cc pc = .ok (.getfield 91, 3)) (kk : W p l e R s m args below meth c H locs cells slots Q (F0 m (pc + 3) ls (.int (nI σ.top) :: rest))) : W p l e R s m args below meth c H locs cells slots Q (F0 m pc ls (.ref (q 0) :: rest)) :=
  mw_get S inlX10 hK hG hR.obj rfl 12 (by decide) in_381 (fun _ h9 => h9) rfl hdg kk
theorem rp_top (S : CallFix p m c cc nL s args wsL RX10) (hK : va_K (dC, dI) vwCl (tyL cI cZ cT) s) (hG : mG (dC, dI) vwCl A H0 w H locs) (hR : RW cI cZ q σ w) (x : Nat) (hdg : decode cc pc = .ok (.putfield 91, 3)) (kk : ∀ (w : mM) (H1 : Heap) (locs1 : List Loc), RW cI cZ q (σ.setTop x) w → mG (dC, dI) vwCl A H0 w H1 locs1 → W p l e R s m args below meth c H1 locs1 cells slots Q (F0 m (pc + 3) ls rest)) : W p l e R s m args below meth c H locs cells slots Q (F0 m pc ls (.int (nI x) :: .ref (q 0) :: rest)) :=
  mw_put S inlX10 tyX10 tyX10_ok nmX10 hK hG hR.obj rfl 12 (by decide) in_381 (fun _ h9 => h9) rfl (ty := .int) (by decide +kernel) rfl rfl (Nat.le_of_ble_eq_true rfl) hdg (fun H1 locs1 hG1 => kk _ H1 locs1 (IW.upd (cell2 := cellR cI cZ q (σ.setTop x)) hR 0 (by decide) (fun i hi hn => by rcases i with _|_|_|_|_|_|_|_|_|_|_|i <;> first | rfl | exact absurd rfl hn | (exfalso; omega))) hG1)
theorem rg_coll (S : CallFix p m c cc nL s args wsL RX10) (hK : va_K (dC, dI) vwCl (tyL cI cZ cT) s) (hG : mG (dC, dI) vwCl A H0 w H locs) (hR : RW cI cZ q σ w) (hdg : decode cc pc = .ok (.getfield 114, 3)) (kk : W p l e R s m args below meth c H locs cells slots Q (F0 m (pc + 3) ls (.int (nI σ.coll) :: rest))) : W p l e R s m args below meth c H locs cells slots Q (F0 m pc ls (.ref (q 0) :: rest)) :=
  mw_get S inlX10 hK hG hR.obj rfl 13 (by decide) in_401 (fun _ h9 => h9) rfl hdg kk
theorem rp_coll (S : CallFix p m c cc nL s args wsL RX10) (hK : va_K (dC, dI) vwCl (tyL cI cZ cT) s) (hG : mG (dC, dI) vwCl A H0 w H locs) (hR : RW cI cZ q σ w) (x : Nat) (hdg : decode cc pc = .ok (.putfield 114, 3)) (kk : ∀ (w : mM) (H1 : Heap) (locs1 : List Loc), RW cI cZ q (σ.setColl x) w → mG (dC, dI) vwCl A H0 w H1 locs1 → W p l e R s m args below meth c H1 locs1 cells slots Q (F0 m (pc + 3) ls rest)) : W p l e R s m args below meth c H locs cells slots Q (F0 m pc ls (.int (nI x) :: .ref (q 0) :: rest)) :=
  mw_put S inlX10 tyX10 tyX10_ok nmX10 hK hG hR.obj rfl 13 (by decide) in_401 (fun _ h9 => h9) rfl (ty := .int) (by decide +kernel) rfl rfl (Nat.le_of_ble_eq_true rfl) hdg (fun H1 locs1 hG1 => kk _ H1 locs1 (IW.upd (cell2 := cellR cI cZ q (σ.setColl x)) hR 0 (by decide) (fun i hi hn => by rcases i with _|_|_|_|_|_|_|_|_|_|_|i <;> first | rfl | exact absurd rfl hn | (exfalso; omega))) hG1)
theorem rg_mins (S : CallFix p m c cc nL s args wsL RX10) (hK : va_K (dC, dI) vwCl (tyL cI cZ cT) s) (hG : mG (dC, dI) vwCl A H0 w H locs) (hR : RW cI cZ q σ w) (hdg : decode cc pc = .ok (.getfield 111, 3)) (kk : W p l e R s m args below meth c H locs cells slots Q (F0 m (pc + 3) ls (.int (nI σ.mins) :: rest))) : W p l e R s m args below meth c H locs cells slots Q (F0 m pc ls (.ref (q 0) :: rest)) :=
  mw_get S inlX10 hK hG hR.obj rfl 14 (by decide) in_448 (fun _ h9 => h9) rfl hdg kk
theorem rp_mins (S : CallFix p m c cc nL s args wsL RX10) (hK : va_K (dC, dI) vwCl (tyL cI cZ cT) s) (hG : mG (dC, dI) vwCl A H0 w H locs) (hR : RW cI cZ q σ w) (x : Nat) (hdg : decode cc pc = .ok (.putfield 111, 3)) (kk : ∀ (w : mM) (H1 : Heap) (locs1 : List Loc), RW cI cZ q (σ.setMins x) w → mG (dC, dI) vwCl A H0 w H1 locs1 → W p l e R s m args below meth c H1 locs1 cells slots Q (F0 m (pc + 3) ls rest)) : W p l e R s m args below meth c H locs cells slots Q (F0 m pc ls (.int (nI x) :: .ref (q 0) :: rest)) :=
  mw_put S inlX10 tyX10 tyX10_ok nmX10 hK hG hR.obj rfl 14 (by decide) in_448 (fun _ h9 => h9) rfl (ty := .int) (by decide +kernel) rfl rfl (Nat.le_of_ble_eq_true rfl) hdg (fun H1 locs1 hG1 => kk _ H1 locs1 (IW.upd (cell2 := cellR cI cZ q (σ.setMins x)) hR 0 (by decide) (fun i hi hn => by rcases i with _|_|_|_|_|_|_|_|_|_|_|i <;> first | rfl | exact absurd rfl hn | (exfalso; omega))) hG1)
theorem rg_movd (S : CallFix p m c cc nL s args wsL RX10) (hK : va_K (dC, dI) vwCl (tyL cI cZ cT) s) (hG : mG (dC, dI) vwCl A H0 w H locs) (hR : RW cI cZ q σ w) (hdg : decode cc pc = .ok (.getfield 98, 3)) (kk : W p l e R s m args below meth c H locs cells slots Q (F0 m (pc + 3) ls (.int (nI σ.movd) :: rest))) : W p l e R s m args below meth c H locs cells slots Q (F0 m pc ls (.ref (q 0) :: rest)) :=
  mw_get S inlX10 hK hG hR.obj rfl 15 (by decide) in_407 (fun _ h9 => h9) rfl hdg kk
theorem rp_movd (S : CallFix p m c cc nL s args wsL RX10) (hK : va_K (dC, dI) vwCl (tyL cI cZ cT) s) (hG : mG (dC, dI) vwCl A H0 w H locs) (hR : RW cI cZ q σ w) (x : Nat) (hdg : decode cc pc = .ok (.putfield 98, 3)) (kk : ∀ (w : mM) (H1 : Heap) (locs1 : List Loc), RW cI cZ q (σ.setMovd x) w → mG (dC, dI) vwCl A H0 w H1 locs1 → W p l e R s m args below meth c H1 locs1 cells slots Q (F0 m (pc + 3) ls rest)) : W p l e R s m args below meth c H locs cells slots Q (F0 m pc ls (.int (nI x) :: .ref (q 0) :: rest)) :=
  mw_put S inlX10 tyX10 tyX10_ok nmX10 hK hG hR.obj rfl 15 (by decide) in_407 (fun _ h9 => h9) rfl (ty := .int) (by decide +kernel) rfl rfl (Nat.le_of_ble_eq_true rfl) hdg (fun H1 locs1 hG1 => kk _ H1 locs1 (IW.upd (cell2 := cellR cI cZ q (σ.setMovd x)) hR 0 (by decide) (fun i hi hn => by rcases i with _|_|_|_|_|_|_|_|_|_|_|i <;> first | rfl | exact absurd rfl hn | (exfalso; omega))) hG1)
theorem rg_size (S : CallFix p m c cc nL s args wsL RX10) (hK : va_K (dC, dI) vwCl (tyL cI cZ cT) s) (hG : mG (dC, dI) vwCl A H0 w H locs) (hR : RW cI cZ q σ w) (hdg : decode cc pc = .ok (.getfield 59, 3)) (kk : W p l e R s m args below meth c H locs cells slots Q (F0 m (pc + 3) ls (.int (nI σ.size) :: rest))) : W p l e R s m args below meth c H locs cells slots Q (F0 m pc ls (.ref (q 0) :: rest)) :=
  mw_get S inlX10 hK hG hR.obj rfl 16 (by decide) in_406 (fun _ h9 => h9) rfl hdg kk
theorem rp_size (S : CallFix p m c cc nL s args wsL RX10) (hK : va_K (dC, dI) vwCl (tyL cI cZ cT) s) (hG : mG (dC, dI) vwCl A H0 w H locs) (hR : RW cI cZ q σ w) (x : Nat) (hdg : decode cc pc = .ok (.putfield 59, 3)) (kk : ∀ (w : mM) (H1 : Heap) (locs1 : List Loc), RW cI cZ q (σ.setSize x) w → mG (dC, dI) vwCl A H0 w H1 locs1 → W p l e R s m args below meth c H1 locs1 cells slots Q (F0 m (pc + 3) ls rest)) : W p l e R s m args below meth c H locs cells slots Q (F0 m pc ls (.int (nI x) :: .ref (q 0) :: rest)) :=
  mw_put S inlX10 tyX10 tyX10_ok nmX10 hK hG hR.obj rfl 16 (by decide) in_406 (fun _ h9 => h9) rfl (ty := .int) (by decide +kernel) rfl rfl (Nat.le_of_ble_eq_true rfl) hdg (fun H1 locs1 hG1 => kk _ H1 locs1 (IW.upd (cell2 := cellR cI cZ q (σ.setSize x)) hR 0 (by decide) (fun i hi hn => by rcases i with _|_|_|_|_|_|_|_|_|_|_|i <;> first | rfl | exact absurd rfl hn | (exfalso; omega))) hG1)
theorem rg_row (S : CallFix p m c cc nL s args wsL RX10) (hK : va_K (dC, dI) vwCl (tyL cI cZ cT) s) (hG : mG (dC, dI) vwCl A H0 w H locs) (hR : RW cI cZ q σ w) (hdg : decode cc pc = .ok (.getfield 32, 3)) (kk : W p l e R s m args below meth c H locs cells slots Q (F0 m (pc + 3) ls (.ref (q 8) :: rest))) : W p l e R s m args below meth c H locs cells slots Q (F0 m pc ls (.ref (q 0) :: rest)) :=
  mw_get S inlX10 hK hG hR.obj rfl 17 (by decide) in_131 (fun _ h9 => h9) rfl hdg kk
theorem rg_plc (S : CallFix p m c cc nL s args wsL RX10) (hK : va_K (dC, dI) vwCl (tyL cI cZ cT) s) (hG : mG (dC, dI) vwCl A H0 w H locs) (hR : RW cI cZ q σ w) (hdg : decode cc pc = .ok (.getfield 35, 3)) (kk : W p l e R s m args below meth c H locs cells slots Q (F0 m (pc + 3) ls (.ref (q 9) :: rest))) : W p l e R s m args below meth c H locs cells slots Q (F0 m pc ls (.ref (q 0) :: rest)) :=
  mw_get S inlX10 hK hG hR.obj rfl 18 (by decide) in_132 (fun _ h9 => h9) rfl hdg kk
theorem rg_old (S : CallFix p m c cc nL s args wsL RX10) (hK : va_K (dC, dI) vwCl (tyL cI cZ cT) s) (hG : mG (dC, dI) vwCl A H0 w H locs) (hR : RW cI cZ q σ w) (hdg : decode cc pc = .ok (.getfield 38, 3)) (kk : W p l e R s m args below meth c H locs cells slots Q (F0 m (pc + 3) ls (.ref (q 10) :: rest))) : W p l e R s m args below meth c H locs cells slots Q (F0 m pc ls (.ref (q 0) :: rest)) :=
  mw_get S inlX10 hK hG hR.obj rfl 19 (by decide) in_133 (fun _ h9 => h9) rfl hdg kk
theorem rl_adr (S : CallFix p m c cc nL s args wsL RX10) (hK : va_K (dC, dI) vwCl (tyL cI cZ cT) s) (hG : mG (dC, dI) vwCl A H0 w H locs) (hR : RW cI cZ q σ w) (j : Nat) (hj : j < 2000) (hdg : decode cc pc = .ok (.iaload, 1)) (kk : W p l e R s m args below meth c H locs cells slots Q (F0 m (pc + 1) ls (.int (oI (σ.adr j)) :: rest))) : W p l e R s m args below meth c H locs cells slots Q (F0 m pc ls (.int (nI j) :: .ref (q 1) :: rest)) :=
  mw_iald S hK hG 0 hR.aadr rfl j hj (nI_clamp (by omega)) (nI_pos (by omega)) hdg kk
theorem rs_adr (S : CallFix p m c cc nL s args wsL RX10) (hK : va_K (dC, dI) vwCl (tyL cI cZ cT) s) (hG : mG (dC, dI) vwCl A H0 w H locs) (hR : RW cI cZ q σ w) (j : Nat) (x : Option Nat) (hj : j < 2000) (hdg : decode cc pc = .ok (.iastore, 1)) (kk : ∀ (w : mM) (H1 : Heap) (locs1 : List Loc), RW cI cZ q (σ.setAdr (va_up σ.adr j x)) w → mG (dC, dI) vwCl A H0 w H1 locs1 → W p l e R s m args below meth c H1 locs1 cells slots Q (F0 m (pc + 1) ls rest)) : W p l e R s m args below meth c H locs cells slots Q (F0 m pc ls (.int (oI x) :: .int (nI j) :: .ref (q 1) :: rest)) :=
  mw_iast S hK hG 0 hR.aadr rfl j hj (nI_clamp (by omega)) (nI_pos (by omega)) hdg (fun H1 locs1 hG1 => kk _ H1 locs1 (IW.upd (cell2 := cellR cI cZ q (σ.setAdr (va_up σ.adr j x))) hR 1 (by decide) (fun i hi hn => by rcases i with _|_|_|_|_|_|_|_|_|_|_|i <;> first | rfl | exact absurd rfl hn | (exfalso; omega))) (by rw [up_map oI] at hG1; exact hG1))
theorem rl_fl (S : CallFix p m c cc nL s args wsL RX10) (hK : va_K (dC, dI) vwCl (tyL cI cZ cT) s) (hG : mG (dC, dI) vwCl A H0 w H locs) (hR : RW cI cZ q σ w) (j : Nat) (hj : j < 2000) (hdg : decode cc pc = .ok (.iaload, 1)) (kk : W p l e R s m args below meth c H locs cells slots Q (F0 m (pc + 1) ls (.int (nI (σ.fl j)) :: rest))) : W p l e R s m args below meth c H locs cells slots Q (F0 m pc ls (.int (nI j) :: .ref (q 2) :: rest)) :=
  mw_iald S hK hG 0 hR.afl rfl j hj (nI_clamp (by omega)) (nI_pos (by omega)) hdg kk
theorem rs_fl (S : CallFix p m c cc nL s args wsL RX10) (hK : va_K (dC, dI) vwCl (tyL cI cZ cT) s) (hG : mG (dC, dI) vwCl A H0 w H locs) (hR : RW cI cZ q σ w) (j : Nat) (x : Nat) (hj : j < 2000) (hdg : decode cc pc = .ok (.iastore, 1)) (kk : ∀ (w : mM) (H1 : Heap) (locs1 : List Loc), RW cI cZ q (σ.setFl (va_up σ.fl j x)) w → mG (dC, dI) vwCl A H0 w H1 locs1 → W p l e R s m args below meth c H1 locs1 cells slots Q (F0 m (pc + 1) ls rest)) : W p l e R s m args below meth c H locs cells slots Q (F0 m pc ls (.int (nI x) :: .int (nI j) :: .ref (q 2) :: rest)) :=
  mw_iast S hK hG 0 hR.afl rfl j hj (nI_clamp (by omega)) (nI_pos (by omega)) hdg (fun H1 locs1 hG1 => kk _ H1 locs1 (IW.upd (cell2 := cellR cI cZ q (σ.setFl (va_up σ.fl j x))) hR 2 (by decide) (fun i hi hn => by rcases i with _|_|_|_|_|_|_|_|_|_|_|i <;> first | rfl | exact absurd rfl hn | (exfalso; omega))) (by rw [up_map nI] at hG1; exact hG1))
theorem rl_rem (S : CallFix p m c cc nL s args wsL RX10) (hK : va_K (dC, dI) vwCl (tyL cI cZ cT) s) (hG : mG (dC, dI) vwCl A H0 w H locs) (hR : RW cI cZ q σ w) (j : Nat) (hj : j < 2000) (hdg : decode cc pc = .ok (.baload, 1)) (kk : W p l e R s m args below meth c H locs cells slots Q (F0 m (pc + 1) ls (.int (bI (σ.rem j)) :: rest))) : W p l e R s m args below meth c H locs cells slots Q (F0 m pc ls (.int (nI j) :: .ref (q 3) :: rest)) :=
  mw_zald S hK hG 1 hR.arem rfl j hj (nI_clamp (by omega)) (nI_pos (by omega)) hdg kk
theorem rs_rem (S : CallFix p m c cc nL s args wsL RX10) (hK : va_K (dC, dI) vwCl (tyL cI cZ cT) s) (hG : mG (dC, dI) vwCl A H0 w H locs) (hR : RW cI cZ q σ w) (j : Nat) (x : Bool) (hj : j < 2000) (hdg : decode cc pc = .ok (.bastore, 1)) (kk : ∀ (w : mM) (H1 : Heap) (locs1 : List Loc), RW cI cZ q (σ.setRem (va_up σ.rem j x)) w → mG (dC, dI) vwCl A H0 w H1 locs1 → W p l e R s m args below meth c H1 locs1 cells slots Q (F0 m (pc + 1) ls rest)) : W p l e R s m args below meth c H locs cells slots Q (F0 m pc ls (.int (bI x) :: .int (nI j) :: .ref (q 3) :: rest)) :=
  mw_zast S hK hG 1 hR.arem rfl j hj (nI_clamp (by omega)) (nI_pos (by omega)) (bI_vp x) hdg (fun H1 locs1 hG1 => kk _ H1 locs1 (IW.upd (cell2 := cellR cI cZ q (σ.setRem (va_up σ.rem j x))) hR 3 (by decide) (fun i hi hn => by rcases i with _|_|_|_|_|_|_|_|_|_|_|i <;> first | rfl | exact absurd rfl hn | (exfalso; omega))) (by rw [up_map bI] at hG1; exact hG1))
theorem rl_num (S : CallFix p m c cc nL s args wsL RX10) (hK : va_K (dC, dI) vwCl (tyL cI cZ cT) s) (hG : mG (dC, dI) vwCl A H0 w H locs) (hR : RW cI cZ q σ w) (o i : Nat) (ho : o < 2000) (hi : i < 6) (hdg : decode cc pc = .ok (.iaload, 1)) (kk : W p l e R s m args below meth c H locs cells slots Q (F0 m (pc + 1) ls (.int (σ.num o i) :: rest))) : W p l e R s m args below meth c H locs cells slots Q (F0 m pc ls (.int (nI (6 * o + i)) :: .ref (q 4) :: rest)) := by
  have h1 : (6 * o + i) / 6 = o := by omega
  have h2 : (6 * o + i) % 6 = i := by omega
  refine mw_iald S hK hG 0 hR.anum rfl (6 * o + i) (by omega) (nI_clamp (by omega)) (nI_pos (by omega)) hdg ?_
  rw [h1, h2]
  exact kk
theorem rs_num (S : CallFix p m c cc nL s args wsL RX10) (hK : va_K (dC, dI) vwCl (tyL cI cZ cT) s) (hG : mG (dC, dI) vwCl A H0 w H locs) (hR : RW cI cZ q σ w) (o i : Nat) (x : Int32) (ho : o < 2000) (hi : i < 6) (hdg : decode cc pc = .ok (.iastore, 1)) (kk : ∀ (w : mM) (H1 : Heap) (locs1 : List Loc), RW cI cZ q (σ.setNum (up2 σ.num o i x)) w → mG (dC, dI) vwCl A H0 w H1 locs1 → W p l e R s m args below meth c H1 locs1 cells slots Q (F0 m (pc + 1) ls rest)) : W p l e R s m args below meth c H locs cells slots Q (F0 m pc ls (.int (x) :: .int (nI (6 * o + i)) :: .ref (q 4) :: rest)) := by
  refine mw_iast S hK hG 0 hR.anum rfl (6 * o + i) (by omega) (nI_clamp (by omega)) (nI_pos (by omega)) hdg (fun H1 locs1 hG1 => kk _ H1 locs1 (IW.upd (cell2 := cellR cI cZ q (σ.setNum (up2 σ.num o i x))) hR 4 (by decide) (fun i hi hn => by rcases i with _|_|_|_|_|_|_|_|_|_|_|i <;> first | rfl | exact absurd rfl hn | (exfalso; omega))) ?_)
  have h1 : va_up (fun k => σ.num (k / 6) (k % 6)) (6 * o + i) x = fun k => up2 σ.num o i x (k / 6) (k % 6) := up_flat (fun z : Int32 => z) σ.num o i hi x
  rw [h1] at hG1
  exact hG1
theorem rl_rfs (S : CallFix p m c cc nL s args wsL RX10) (hK : va_K (dC, dI) vwCl (tyL cI cZ cT) s) (hG : mG (dC, dI) vwCl A H0 w H locs) (hR : RW cI cZ q σ w) (o i : Nat) (ho : o < 2000) (hi : i < 6) (hdg : decode cc pc = .ok (.iaload, 1)) (kk : W p l e R s m args below meth c H locs cells slots Q (F0 m (pc + 1) ls (.int (oI (σ.rfs o i)) :: rest))) : W p l e R s m args below meth c H locs cells slots Q (F0 m pc ls (.int (nI (6 * o + i)) :: .ref (q 5) :: rest)) := by
  have h1 : (6 * o + i) / 6 = o := by omega
  have h2 : (6 * o + i) % 6 = i := by omega
  refine mw_iald S hK hG 0 hR.arfs rfl (6 * o + i) (by omega) (nI_clamp (by omega)) (nI_pos (by omega)) hdg ?_
  rw [h1, h2]
  exact kk
theorem rs_rfs (S : CallFix p m c cc nL s args wsL RX10) (hK : va_K (dC, dI) vwCl (tyL cI cZ cT) s) (hG : mG (dC, dI) vwCl A H0 w H locs) (hR : RW cI cZ q σ w) (o i : Nat) (x : Option Nat) (ho : o < 2000) (hi : i < 6) (hdg : decode cc pc = .ok (.iastore, 1)) (kk : ∀ (w : mM) (H1 : Heap) (locs1 : List Loc), RW cI cZ q (σ.setRfs (up2 σ.rfs o i x)) w → mG (dC, dI) vwCl A H0 w H1 locs1 → W p l e R s m args below meth c H1 locs1 cells slots Q (F0 m (pc + 1) ls rest)) : W p l e R s m args below meth c H locs cells slots Q (F0 m pc ls (.int (oI x) :: .int (nI (6 * o + i)) :: .ref (q 5) :: rest)) := by
  refine mw_iast S hK hG 0 hR.arfs rfl (6 * o + i) (by omega) (nI_clamp (by omega)) (nI_pos (by omega)) hdg (fun H1 locs1 hG1 => kk _ H1 locs1 (IW.upd (cell2 := cellR cI cZ q (σ.setRfs (up2 σ.rfs o i x))) hR 5 (by decide) (fun i hi hn => by rcases i with _|_|_|_|_|_|_|_|_|_|_|i <;> first | rfl | exact absurd rfl hn | (exfalso; omega))) ?_)
  have h1 := up_flat oI σ.rfs o i hi x
  rw [h1] at hG1
  exact hG1
theorem rl_root (S : CallFix p m c cc nL s args wsL RX10) (hK : va_K (dC, dI) vwCl (tyL cI cZ cT) s) (hG : mG (dC, dI) vwCl A H0 w H locs) (hR : RW cI cZ q σ w) (j : Nat) (hj : j < 16) (hdg : decode cc pc = .ok (.iaload, 1)) (kk : W p l e R s m args below meth c H locs cells slots Q (F0 m (pc + 1) ls (.int (oI (σ.root j)) :: rest))) : W p l e R s m args below meth c H locs cells slots Q (F0 m pc ls (.int (nI j) :: .ref (q 6) :: rest)) :=
  mw_iald S hK hG 0 hR.aroot rfl j hj (nI_clamp (by omega)) (nI_pos (by omega)) hdg kk
theorem rs_root (S : CallFix p m c cc nL s args wsL RX10) (hK : va_K (dC, dI) vwCl (tyL cI cZ cT) s) (hG : mG (dC, dI) vwCl A H0 w H locs) (hR : RW cI cZ q σ w) (j : Nat) (x : Option Nat) (hj : j < 16) (hdg : decode cc pc = .ok (.iastore, 1)) (kk : ∀ (w : mM) (H1 : Heap) (locs1 : List Loc), RW cI cZ q (σ.setRoot (va_up σ.root j x)) w → mG (dC, dI) vwCl A H0 w H1 locs1 → W p l e R s m args below meth c H1 locs1 cells slots Q (F0 m (pc + 1) ls rest)) : W p l e R s m args below meth c H locs cells slots Q (F0 m pc ls (.int (oI x) :: .int (nI j) :: .ref (q 6) :: rest)) :=
  mw_iast S hK hG 0 hR.aroot rfl j hj (nI_clamp (by omega)) (nI_pos (by omega)) hdg (fun H1 locs1 hG1 => kk _ H1 locs1 (IW.upd (cell2 := cellR cI cZ q (σ.setRoot (va_up σ.root j x))) hR 6 (by decide) (fun i hi hn => by rcases i with _|_|_|_|_|_|_|_|_|_|_|i <;> first | rfl | exact absurd rfl hn | (exfalso; omega))) (by rw [up_map oI] at hG1; exact hG1))
theorem rl_own (S : CallFix p m c cc nL s args wsL RX10) (hK : va_K (dC, dI) vwCl (tyL cI cZ cT) s) (hG : mG (dC, dI) vwCl A H0 w H locs) (hR : RW cI cZ q σ w) (j : Nat) (hj : j < 400) (hdg : decode cc pc = .ok (.iaload, 1)) (kk : W p l e R s m args below meth c H locs cells slots Q (F0 m (pc + 1) ls (.int (oI (σ.own j)) :: rest))) : W p l e R s m args below meth c H locs cells slots Q (F0 m pc ls (.int (nI j) :: .ref (q 7) :: rest)) :=
  mw_iald S hK hG 0 hR.aown rfl j hj (nI_clamp (by omega)) (nI_pos (by omega)) hdg kk
theorem rs_own (S : CallFix p m c cc nL s args wsL RX10) (hK : va_K (dC, dI) vwCl (tyL cI cZ cT) s) (hG : mG (dC, dI) vwCl A H0 w H locs) (hR : RW cI cZ q σ w) (j : Nat) (x : Option Nat) (hj : j < 400) (hdg : decode cc pc = .ok (.iastore, 1)) (kk : ∀ (w : mM) (H1 : Heap) (locs1 : List Loc), RW cI cZ q (σ.setOwn (va_up σ.own j x)) w → mG (dC, dI) vwCl A H0 w H1 locs1 → W p l e R s m args below meth c H1 locs1 cells slots Q (F0 m (pc + 1) ls rest)) : W p l e R s m args below meth c H locs cells slots Q (F0 m pc ls (.int (oI x) :: .int (nI j) :: .ref (q 7) :: rest)) :=
  mw_iast S hK hG 0 hR.aown rfl j hj (nI_clamp (by omega)) (nI_pos (by omega)) hdg (fun H1 locs1 hG1 => kk _ H1 locs1 (IW.upd (cell2 := cellR cI cZ q (σ.setOwn (va_up σ.own j x))) hR 7 (by decide) (fun i hi hn => by rcases i with _|_|_|_|_|_|_|_|_|_|_|i <;> first | rfl | exact absurd rfl hn | (exfalso; omega))) (by rw [up_map oI] at hG1; exact hG1))
theorem rl_row (S : CallFix p m c cc nL s args wsL RX10) (hK : va_K (dC, dI) vwCl (tyL cI cZ cT) s) (hG : mG (dC, dI) vwCl A H0 w H locs) (hR : RW cI cZ q σ w) (j : Nat) (hj : j < 400) (hdg : decode cc pc = .ok (.iaload, 1)) (kk : W p l e R s m args below meth c H locs cells slots Q (F0 m (pc + 1) ls (.int (nI (σ.row j)) :: rest))) : W p l e R s m args below meth c H locs cells slots Q (F0 m pc ls (.int (nI j) :: .ref (q 8) :: rest)) :=
  mw_iald S hK hG 0 hR.arow rfl j hj (nI_clamp (by omega)) (nI_pos (by omega)) hdg kk
theorem rs_row (S : CallFix p m c cc nL s args wsL RX10) (hK : va_K (dC, dI) vwCl (tyL cI cZ cT) s) (hG : mG (dC, dI) vwCl A H0 w H locs) (hR : RW cI cZ q σ w) (j : Nat) (x : Nat) (hj : j < 400) (hdg : decode cc pc = .ok (.iastore, 1)) (kk : ∀ (w : mM) (H1 : Heap) (locs1 : List Loc), RW cI cZ q (σ.setRow (va_up σ.row j x)) w → mG (dC, dI) vwCl A H0 w H1 locs1 → W p l e R s m args below meth c H1 locs1 cells slots Q (F0 m (pc + 1) ls rest)) : W p l e R s m args below meth c H locs cells slots Q (F0 m pc ls (.int (nI x) :: .int (nI j) :: .ref (q 8) :: rest)) :=
  mw_iast S hK hG 0 hR.arow rfl j hj (nI_clamp (by omega)) (nI_pos (by omega)) hdg (fun H1 locs1 hG1 => kk _ H1 locs1 (IW.upd (cell2 := cellR cI cZ q (σ.setRow (va_up σ.row j x))) hR 8 (by decide) (fun i hi hn => by rcases i with _|_|_|_|_|_|_|_|_|_|_|i <;> first | rfl | exact absurd rfl hn | (exfalso; omega))) (by rw [up_map nI] at hG1; exact hG1))
theorem rl_plc (S : CallFix p m c cc nL s args wsL RX10) (hK : va_K (dC, dI) vwCl (tyL cI cZ cT) s) (hG : mG (dC, dI) vwCl A H0 w H locs) (hR : RW cI cZ q σ w) (j : Nat) (hj : j < 2000) (hdg : decode cc pc = .ok (.iaload, 1)) (kk : W p l e R s m args below meth c H locs cells slots Q (F0 m (pc + 1) ls (.int (oI (σ.plc j)) :: rest))) : W p l e R s m args below meth c H locs cells slots Q (F0 m pc ls (.int (nI j) :: .ref (q 9) :: rest)) :=
  mw_iald S hK hG 0 hR.aplc rfl j hj (nI_clamp (by omega)) (nI_pos (by omega)) hdg kk
theorem rs_plc (S : CallFix p m c cc nL s args wsL RX10) (hK : va_K (dC, dI) vwCl (tyL cI cZ cT) s) (hG : mG (dC, dI) vwCl A H0 w H locs) (hR : RW cI cZ q σ w) (j : Nat) (x : Option Nat) (hj : j < 2000) (hdg : decode cc pc = .ok (.iastore, 1)) (kk : ∀ (w : mM) (H1 : Heap) (locs1 : List Loc), RW cI cZ q (σ.setPlc (va_up σ.plc j x)) w → mG (dC, dI) vwCl A H0 w H1 locs1 → W p l e R s m args below meth c H1 locs1 cells slots Q (F0 m (pc + 1) ls rest)) : W p l e R s m args below meth c H locs cells slots Q (F0 m pc ls (.int (oI x) :: .int (nI j) :: .ref (q 9) :: rest)) :=
  mw_iast S hK hG 0 hR.aplc rfl j hj (nI_clamp (by omega)) (nI_pos (by omega)) hdg (fun H1 locs1 hG1 => kk _ H1 locs1 (IW.upd (cell2 := cellR cI cZ q (σ.setPlc (va_up σ.plc j x))) hR 9 (by decide) (fun i hi hn => by rcases i with _|_|_|_|_|_|_|_|_|_|_|i <;> first | rfl | exact absurd rfl hn | (exfalso; omega))) (by rw [up_map oI] at hG1; exact hG1))
theorem rl_old (S : CallFix p m c cc nL s args wsL RX10) (hK : va_K (dC, dI) vwCl (tyL cI cZ cT) s) (hG : mG (dC, dI) vwCl A H0 w H locs) (hR : RW cI cZ q σ w) (j : Nat) (hj : j < 400) (hdg : decode cc pc = .ok (.iaload, 1)) (kk : W p l e R s m args below meth c H locs cells slots Q (F0 m (pc + 1) ls (.int (oI (σ.old j)) :: rest))) : W p l e R s m args below meth c H locs cells slots Q (F0 m pc ls (.int (nI j) :: .ref (q 10) :: rest)) :=
  mw_iald S hK hG 0 hR.aold rfl j hj (nI_clamp (by omega)) (nI_pos (by omega)) hdg kk
theorem rs_old (S : CallFix p m c cc nL s args wsL RX10) (hK : va_K (dC, dI) vwCl (tyL cI cZ cT) s) (hG : mG (dC, dI) vwCl A H0 w H locs) (hR : RW cI cZ q σ w) (j : Nat) (x : Option Nat) (hj : j < 400) (hdg : decode cc pc = .ok (.iastore, 1)) (kk : ∀ (w : mM) (H1 : Heap) (locs1 : List Loc), RW cI cZ q (σ.setOld (va_up σ.old j x)) w → mG (dC, dI) vwCl A H0 w H1 locs1 → W p l e R s m args below meth c H1 locs1 cells slots Q (F0 m (pc + 1) ls rest)) : W p l e R s m args below meth c H locs cells slots Q (F0 m pc ls (.int (oI x) :: .int (nI j) :: .ref (q 10) :: rest)) :=
  mw_iast S hK hG 0 hR.aold rfl j hj (nI_clamp (by omega)) (nI_pos (by omega)) hdg (fun H1 locs1 hG1 => kk _ H1 locs1 (IW.upd (cell2 := cellR cI cZ q (σ.setOld (va_up σ.old j x))) hR 10 (by decide) (fun i hi hn => by rcases i with _|_|_|_|_|_|_|_|_|_|_|i <;> first | rfl | exact absurd rfl hn | (exfalso; omega))) (by rw [up_map oI] at hG1; exact hG1))
end RR
