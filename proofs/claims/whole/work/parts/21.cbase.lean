/-! references that may be null: loads, stores, tests -/
section LWQ
variable {p : Program} {l : Launch} {e : Env} {R : Room} {s : State} {m : MethodId} {args : Array Value} {below : List Frame} {meth : Method} {c : Code} {H : Heap} {locs : List Loc} {cells slots : Nat} {Q : State → Prop} {cc : ByteArray} {pc : Nat} {ls : Array Slot} {rest : List Value}
theorem lw_aload_n (hexec : p.tables.exec = Jvm.exec) (hb : c.code = cc) {k : Fin 4} {i : Nat} {x : Option Nat} (hdg : decode cc pc = .ok (.aload_n k, 1)) (hi : (k : Nat) = i) (hl : ls[i]? = some (.val (va_rf x))) (kk : W p l e R s m args below meth c H locs cells slots Q (F0 m (pc + 1) ls (va_rf x :: rest))) : W p l e R s m args below meth c H locs cells slots Q (F0 m pc ls rest) := by
  cases x with
  | none => exact lv_aload_nN hexec hb hdg hi hl kk
  | some a => exact lv_aload_n hexec hb hdg hi hl kk
theorem lw_aload (hexec : p.tables.exec = Jvm.exec) (hb : c.code = cc) {i : Nat} {x : Option Nat} (hdg : decode cc pc = .ok (.aload i, 2)) (hl : ls[i]? = some (.val (va_rf x))) (kk : W p l e R s m args below meth c H locs cells slots Q (F0 m (pc + 2) ls (va_rf x :: rest))) : W p l e R s m args below meth c H locs cells slots Q (F0 m pc ls rest) := by
  cases x with
  | none => exact lv_aloadN hexec hb hdg hl kk
  | some a => exact lv_aload hexec hb hdg hl kk
theorem lw_astore_n (hexec : p.tables.exec = Jvm.exec) (hb : c.code = cc) {k : Fin 4} {i nL : Nat} {x : Option Nat} {lv lv' : List (Nat × Value)} (hdg : decode cc pc = .ok (.astore_n k, 1)) (hi : (k : Nat) = i) (h : lv_has ls nL lv) (hn : i < nL) (hl : (i, va_rf x) :: lv.filter (fun q => !(q.1 == i) && !(q.1 + 1 == i && q.2.category == 2)) = lv')
    (kk : ∀ ls : Array Slot, lv_has ls nL lv' → W p l e R s m args below meth c H locs cells slots Q (F0 m (pc + 1) ls rest)) : W p l e R s m args below meth c H locs cells slots Q (F0 m pc ls (va_rf x :: rest)) := by
  cases x with
  | none => exact lv_astore_nN hexec hb hdg hi h hn hl kk
  | some a => exact lv_astore_n hexec hb hdg hi h hn hl kk
theorem lw_astore (hexec : p.tables.exec = Jvm.exec) (hb : c.code = cc) {i nL : Nat} {x : Option Nat} {lv lv' : List (Nat × Value)} (hdg : decode cc pc = .ok (.astore i, 2)) (h : lv_has ls nL lv) (hn : i < nL) (hl : (i, va_rf x) :: lv.filter (fun q => !(q.1 == i) && !(q.1 + 1 == i && q.2.category == 2)) = lv')
    (kk : ∀ ls : Array Slot, lv_has ls nL lv' → W p l e R s m args below meth c H locs cells slots Q (F0 m (pc + 2) ls rest)) : W p l e R s m args below meth c H locs cells slots Q (F0 m pc ls (va_rf x :: rest)) := by
  cases x with
  | none => exact lv_astoreN hexec hb hdg h hn hl kk
  | some a => exact lv_astore hexec hb hdg h hn hl kk
theorem lw_ifnull (hexec : p.tables.exec = Jvm.exec) (hb : c.code = cc) {x : Option Nat} {g : Nat → Nat} {off : Int} {tgt : Nat} (hdg : decode cc pc = .ok (.ifnull off, 3)) (ht : (pc : Int) + off = (tgt : Int)) (k1 : x = none → W p l e R s m args below meth c H locs cells slots Q (F0 m tgt ls rest)) (k2 : ∀ t, x = some t → W p l e R s m args below meth c H locs cells slots Q (F0 m (pc + 3) ls rest)) : W p l e R s m args below meth c H locs cells slots Q (F0 m pc ls (va_rf (x.map g) :: rest)) := by
  cases x with
  | none => exact lv_ifnullN hexec hb hdg ht (k1 rfl)
  | some a => exact lv_ifnull hexec hb hdg (k2 a rfl)
theorem lw_ifnonnull (hexec : p.tables.exec = Jvm.exec) (hb : c.code = cc) {x : Option Nat} {g : Nat → Nat} {off : Int} {tgt : Nat} (hdg : decode cc pc = .ok (.ifnonnull off, 3)) (ht : (pc : Int) + off = (tgt : Int)) (k1 : x = none → W p l e R s m args below meth c H locs cells slots Q (F0 m (pc + 3) ls rest)) (k2 : ∀ t, x = some t → W p l e R s m args below meth c H locs cells slots Q (F0 m tgt ls rest)) : W p l e R s m args below meth c H locs cells slots Q (F0 m pc ls (va_rf (x.map g) :: rest)) := by
  cases x with
  | none => exact lv_ifnonnullN hexec hb hdg (k1 rfl)
  | some a => exact lv_ifnonnull hexec hb hdg ht (k2 a rfl)
end LWQ
theorem max0 {a : Nat} (h : a < 2147483648) : (if nI 0 < nI a then nI a else nI 0) = nI a := by
  by_cases h0 : a = 0
  · subst h0; rw [ite_self]
  · rw [if_pos ((nI_ltI (by decide) h).mpr (by omega))]
theorem minW {a b : Nat} (h : b ≤ a) (ha : a < 2147483648) : (if nI b < nI a then nI b else nI a) = nI b := by
  by_cases h0 : a = b
  · subst h0; rw [ite_self]
  · rw [if_pos ((nI_ltI (by omega) ha).mpr (by omega))]
/-- the object that begins at a word -/
def bgn (own : Nat → Option Nat) (tad : Nat → Nat) (k : Nat) : Option Nat := match own k with
  | none => none
  | some t => if tad t = k then some t else none
theorem bgn_n {own : Nat → Option Nat} {tad : Nat → Nat} {k : Nat} (h : own k = none) : bgn own tad k = none := by unfold bgn; rw [h]
theorem bgn_s {own : Nat → Option Nat} {tad : Nat → Nat} {k t : Nat} (h : own k = some t) (h2 : tad t = k) : bgn own tad k = some t := by unfold bgn; rw [h]; simp only [if_pos h2]
theorem bgn_x {own : Nat → Option Nat} {tad : Nat → Nat} {k t : Nat} (h : own k = some t) (h2 : ¬ tad t = k) : bgn own tad k = none := by unfold bgn; rw [h]; simp only [if_neg h2]
theorem bgn_own {own : Nat → Option Nat} {tad : Nat → Nat} {k t : Nat} (h : bgn own tad k = some t) : own k = some t ∧ tad t = k := by
  unfold bgn at h
  split at h
  · cases h
  · rename_i u hu
    split at h
    · cases h; rename_i h2; exact ⟨hu, h2⟩
    · cases h
theorem rf_cat (x : Option Nat) : (va_rf x).category = 1 := by cases x <;> rfl
