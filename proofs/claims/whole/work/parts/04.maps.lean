/-! MAP WORLDS: a world is a partial map from addresses to cells; every method's contract speaks of the map that holds before and the one behind -/
abbrev mM : Type := Nat → Option va_E
def mU (w : mM) (a : Nat) (e : va_E) : mM := fun b => if b = a then some e else w b
theorem mU_s (w : mM) (a : Nat) (e : va_E) : mU w a e a = some e := if_pos rfl
theorem mU_n {w : mM} {a b : Nat} {e : va_E} (h : b ≠ a) : mU w a e b = w b := if_neg h
theorem mU_uu (w : mM) (a : Nat) (e f : va_E) : mU (mU w a e) a f = mU w a f := by
  funext b
  unfold mU
  by_cases h : b = a
  · rw [if_pos h, if_pos h]
  · rw [if_neg h, if_neg h, if_neg h]
def mP (D : va_G) (cl : List vw_C) (w : mM) (H : Heap) : Prop := ∀ (a : Nat) (e : va_E), w a = some e → va_at D cl (a, e) H
/-- the cells that a method may change: those of its world, and those that it makes -/
def mA (w : mM) (sz : Nat) : Nat → Prop := fun q => (∃ e : va_E, w q = some e) ∨ sz ≤ q
/-- the heap H holds the world w, whose cells all lie in A; since H0 nothing outside A has changed -/
def mG (D : va_G) (cl : List vw_C) (A : Nat → Prop) (H0 : Heap) (w : mM) (H : Heap) (locs : List Loc) : Prop :=
  mP D cl w H ∧ (∀ (a : Nat) (e : va_E), w a = some e → A a) ∧ va_S A H0 H locs ∧ ∀ q : Nat, H0.size ≤ q → A q
theorem mP.one {D : va_G} {cl : List vw_C} {w : mM} {H : Heap} {a : Nat} {e : va_E} (h : mP D cl w H) (hw : w a = some e) : va_P D cl [(a, e)] H := by
  intro k q hk
  cases k with
  | zero =>
    cases hk
    exact h a e hw
  | succ k => cases hk
theorem mP.lt {D : va_G} {cl : List vw_C} {w : mM} {H : Heap} {a : Nat} {e : va_E} (h : mP D cl w H) (hw : w a = some e) : a < H.size := (h a e hw).lt
theorem mG.start {D : va_G} {cl : List vw_C} {w : mM} {H : Heap} (h : mP D cl w H) : mG D cl (mA w H.size) H w H [] :=
  ⟨h, fun _ e ha => Or.inl ⟨e, ha⟩, va_S.rf, fun _ h => Or.inr h⟩
theorem mG.put {D : va_G} {cl : List vw_C} {A : Nat → Prop} {H0 H H1 : Heap} {w : mM} {locs : List Loc} {a k : Nat} {e0 e : va_E} (h : mG D cl A H0 w H locs) (hw : w a = some e0) (he : va_at D cl (a, e) H1) (z : H1.size = H.size) (oq : ∀ q : Nat, q ≠ a → H1[q]? = H[q]?) : mG D cl A H0 (mU w a e) H1 (locs ++ [⟨a, k⟩]) := by
  obtain ⟨hP, hD, hS, hA⟩ := h
  refine ⟨fun b f hb => ?_, fun b f hb => ?_, hS.put z oq (hD a e0 hw), hA⟩
  · by_cases hba : b = a
    · subst hba
      rw [mU_s] at hb
      cases hb
      exact he
    · rw [mU_n hba] at hb
      exact (hP b f hb).kept (oq b hba)
  · by_cases hba : b = a
    · subst hba
      exact hD b e0 hw
    · rw [mU_n hba] at hb
      exact hD b f hb
theorem mG.new {D : va_G} {cl : List vw_C} {A : Nat → Prop} {H0 H : Heap} {w : mM} {locs : List Loc} (h : mG D cl A H0 w H locs) : w H.size = none := by
  cases hw : w H.size with
  | none => rfl
  | some e => exact absurd (h.1.lt hw) (Nat.lt_irrefl _)
theorem mG.push {D : va_G} {cl : List vw_C} {A : Nat → Prop} {H0 H H1 : Heap} {w : mM} {locs : List Loc} {e : va_E} (h : mG D cl A H0 w H locs) (he : va_at D cl (H.size, e) H1) (z : H1.size = H.size + 1) (oq : ∀ q : Nat, q < H.size → H1[q]? = H[q]?) : mG D cl A H0 (mU w H.size e) H1 locs := by
  have hn := h.new
  obtain ⟨hP, hD, hS, hA⟩ := h
  refine ⟨fun b f hb => ?_, fun b f hb => ?_, ⟨Nat.le_trans hS.1 (by omega), fun q h1 h2 => ?_, hS.2.2⟩, hA⟩
  · by_cases hba : b = H.size
    · subst hba
      rw [mU_s] at hb
      cases hb
      exact he
    · rw [mU_n hba] at hb
      exact (hP b f hb).kept (oq b (hP.lt hb))
  · by_cases hba : b = H.size
    · subst hba
      exact hA _ hS.1
    · rw [mU_n hba] at hb
      exact hD b f hb
  · rw [oq q (Nat.lt_of_lt_of_le h1 hS.1)]
    exact hS.2.1 q h1 h2
/-- words of the tables that are carried from call to call -/
def mN (U : State) : Prop := va_AO RX6 U ∧ va_Nw (.declares ⟨RX2, "take", "(I)I"⟩) U ∧ va_Nw (.declares ⟨RX2, "clearRoomFor", "(I)V"⟩) U ∧ va_Nw (.declares ⟨RX2, "gather", "()I"⟩) U
theorem mN.moved {s U : State} (hW : s.WarmedH U.vm) (h : mN s) : mN U := ⟨va_AO.moved hW.alike h.1, va_Nw.warmD hW h.2.1, va_Nw.warmD hW h.2.2.1, va_Nw.warmD hW h.2.2.2⟩
theorem mN.same {s U : State} (hv : s.vm = U.vm) (h : mN s) : mN U := ⟨va_AO.moved (by rw [hv]; exact Vm.Alike.refl U.vm) h.1, va_Nw.same rfl hv h.2.1, va_Nw.same rfl hv h.2.2.1, va_Nw.same rfl hv h.2.2.2⟩
/-- a contract's start and end -/
def mPre (D : va_G) (cl : List vw_C) (tys : List (ClassId × FieldType)) (w : mM) (sz : Nat) (U : State) : Prop := U.heap.size = sz ∧ mP D cl w U.heap ∧ va_K D cl tys U ∧ mN U
def mQ (D : va_G) (cl : List vw_C) (tys : List (ClassId × FieldType)) (post : Option Value → mM → Prop) (A : Nat → Prop) : Array Value → State → Outcome → State → Prop := fun _ st oc t =>
  (∃ (v : Option Value) (w' : mM), oc = .returned v ∧ post v w' ∧ mP D cl w' t.heap ∧ va_K D cl tys t ∧ ∀ (a : Nat) (e : va_E), w' a = some e → A a) ∧ va_F A st t
def mC (l : Launch) (y : MethodName) (ws : List Cond) (rm : Room) (D : va_G) (cl : List vw_C) (tys : List (ClassId × FieldType)) (mc ms : Nat) (w : mM) (av : List Value) (post : Option Value → mM → Prop) : Prop :=
  ∀ sz : Nat, Met l y ws rm (va_Pc av (mPre D cl tys w sz)) (mQ D cl tys post (mA w sz)) mc ms (mA w sz)
theorem mBlind {D : va_G} {cl : List vw_C} {tys : List (ClassId × FieldType)} {w : mM} {sz : Nat} {av : List Value} : FrameBlind (va_Pc av (mPre D cl tys w sz)) :=
  fun a U g mk q => ⟨q.1, q.2.1, q.2.2.1, va_K.moved (u := U) (U := U.calling g mk a) (Vm.Alike.refl U.vm) q.2.2.2.1, mN.same (s := U) (U := U.calling g mk a) rfl q.2.2.2.2⟩
section MW
variable {p : Program} {l : Launch} {e : Env} {R : Room} {s : State} {m : MethodId} {args : Array Value} {below : List Frame} {meth : Method} {c : Code} {H : Heap} {locs : List Loc} {cells slots : Nat} {Q : State → Prop}
variable {cc : ByteArray} {pc nL : Nat} {ls : Array Slot} {rest st0 : List Value} {D : va_G} {cl : List vw_C} {A : Nat → Prop} {a : Nat} {tys : List (ClassId × FieldType)} {w : mM} {H0 : Heap} {Ts : List Cond} {own : String}
theorem mPreS {av : List Value} (hK : va_K D cl tys s) (hN : mN s) (hG : mG D cl A H0 w H locs) : PreS s H (va_Pc av (mPre D cl tys w H.size)) av :=
  ⟨mBlind, fun U hU hW => ⟨rfl, by rw [hU], by rw [hU]; exact hG.1, va_K.moved hW.alike hK, hN.moved hW⟩⟩
theorem mPreV {av : List Value} {b ci : Nat} {fs : List Value} {q : vw_C} (hK : va_K D cl tys s) (hN : mN s) (hG : mG D cl A H0 w H locs) (hw : w b = some (.inr (ci, fs))) (hc : cl[ci]? = some q) : PreV s H q.1 b (va_Pc (.ref b :: av) (mPre D cl tys w H.size)) av :=
  ⟨mBlind, va_recv hK (hG.1.one hw) hc (q0 := 0) rfl, fun U hU hW => ⟨rfl, by rw [hU], by rw [hU]; exact hG.1, va_K.moved hW.alike hK, hN.moved hW⟩⟩
/-- behind a call -/
theorem mw_call {mc ms : Nat} {aa : Array Value} {post : Option Value → mM → Prop} (hr : va_Run p l e R s m args below meth c H locs cells slots mc ms (F0 m pc ls st0) rest (mQ D cl tys post (mA w H.size) aa) (mA w H.size)) (hG : mG D cl A H0 w H locs)
    (kk : ∀ (v : Option Value) (w' : mM) (H1 : Heap) (locs1 : List Loc), post v w' → mG D cl A H0 w' H1 locs1 → W p l e R s m args below meth c H1 locs1 (cells + mc) (slots + ms) Q (F0 m (pc + 3) ls (v.toList ++ rest))) : W p l e R s m args below meth c H locs cells slots Q (F0 m pc ls st0) := by
  obtain ⟨hP, hD, hS, hA⟩ := hG
  have hAA : ∀ q, mA w H.size q → A q := fun q h => by
    rcases h with ⟨e, h⟩ | h
    · exact hD q e h
    · exact hA q (Nat.le_trans hS.1 h)
  intro T hT X
  obtain ⟨v, st₀, t, T', L, h0, X', hL, e1, e2, ⟨⟨v', w', hv, hp, hP', hK', hD'⟩, hz, hk⟩, st⟩ := hr T hT X
  cases hv
  rw [h0] at hz hk
  obtain ⟨t2, a1, b1⟩ := kk v w' T'.heap (locs ++ L) hp ⟨by rw [e1]; exact hP', fun a e h => hAA a (hD' a e h), ⟨Nat.le_trans hS.1 (by rw [e1]; exact hz), fun q h1 h2 => by rw [e1, hk q (Nat.lt_of_lt_of_le h1 hS.1) (fun z => h2 (hAA q z))]; exact hS.2.1 q h1 h2, fun q hq => by
      rcases List.mem_append.mp hq with h | h
      · exact hS.2.2 q h
      · exact hAA _ (hL q h)⟩, hA⟩ T' rfl X'
  exact ⟨t2, st t2 a1, b1⟩
/-- a method's entry -/
theorem mC.of {y : MethodName} {ws ws' : List Cond} {rm : Room} {mc ms maxL : Nat} {ret : Option FieldType} {av : List Value} {post : Option Value → mM → Prop} (hy : plainName y.cls = true) (hws : ws = Cond.code y cc maxL ret :: ws') (hn : (lg_sl av).length ≤ maxL)
    (body : ∀ (p : Program) (e : Env) (s : State) (m : MethodId) (args : Array Value) (below : List Frame) (meth : Method) (c : Code) (ls : Array Slot), CallFix p m c cc maxL s args ws y.cls → meth.sig.returnType = ret → meth.locks = false → meth.name = y.name → va_K D cl tys s → mN s → mG D cl (mA w s.heap.size) s.heap w s.heap [] → lv_has ls maxL (lv_args 0 av) →
      W p l e rm s m args below meth c s.heap [] 0 0 (MQ below (mQ D cl tys post (mA w s.heap.size)) args s mc ms (mA w s.heap.size)) (F0 m 0 ls [])) : mC l y ws rm D cl tys mc ms w av post := by
  intro sz
  refine Met.ofW (cc := cc) (maxL := maxL) (ret := ret) hy hws ?_
  intro p e s m args below meth c s₁ B hml hv
  obtain ⟨rfl, hsz, hP, hK, hN⟩ := hv
  subst hsz
  rw [lg_entry_eq]
  exact body p e s m _ below meth c _ ⟨B.exec, B.bytes, hml, findClass_of_methodNamed B.named, atoms_spec (ws := ws) B.pre⟩ B.returns B.notSynchronized (name_of_methodNamed B.named B.method).1 hK hN (mG.start hP) (lv_entry av hn)
/-- a method's ends -/
theorem mw_end {post : Option Value → mM → Prop} {v : Option Value} {A1 : Nat → Prop} (hK : va_K D cl tys s) (hG : mG D cl A s.heap w H locs) (hp : post v w) (t : State) (ht : t.heap = H) (hW : s.WarmedH t.vm) : mQ D cl tys post A args s (.returned v) t :=
  ⟨⟨v, w, rfl, hp, by rw [ht]; exact hG.1, va_K.moved hW.alike hK, hG.2.1⟩, hG.2.2.1.F ht⟩
theorem mw_iret {post : Option Value → mM → Prop} {x : Int32} (S : CallFix p m c cc nL s args Ts own) (hr : meth.sig.returnType = some .int) (hlocks : meth.locks = false) (hK : va_K D cl tys s) (hG : mG D cl A s.heap w H locs) (hdg : decode cc pc = .ok (.ireturn, 1)) (hp : post (some (.int x)) w) : W p l e R s m args below meth c H locs cells slots (MQ below (mQ D cl tys post A) args s cells slots A) (F0 m pc ls [.int x]) :=
  W.iret S.1 S.2.1 hr (fun t ht hW => mw_end (A1 := A) hK hG hp t ht hW) hG.2.2.1.2.2 hdg hlocks
theorem mw_zret {post : Option Value → mM → Prop} {x : Int32} (S : CallFix p m c cc nL s args Ts own) (hr : meth.sig.returnType = some .boolean) (hx : narrow .boolean (.int x) = .int x) (hlocks : meth.locks = false) (hK : va_K D cl tys s) (hG : mG D cl A s.heap w H locs) (hdg : decode cc pc = .ok (.ireturn, 1)) (hp : post (some (.int x)) w) : W p l e R s m args below meth c H locs cells slots (MQ below (mQ D cl tys post A) args s cells slots A) (F0 m pc ls [.int x]) :=
  W.zret S.1 S.2.1 hr hx (fun t ht hW => mw_end (A1 := A) hK hG hp t ht hW) hG.2.2.1.2.2 hdg hlocks
theorem mw_lret {post : Option Value → mM → Prop} {x : Int64} (S : CallFix p m c cc nL s args Ts own) (hr : meth.sig.returnType = some .long) (hlocks : meth.locks = false) (hK : va_K D cl tys s) (hG : mG D cl A s.heap w H locs) (hdg : decode cc pc = .ok (.lreturn, 1)) (hp : post (some (.long x)) w) : W p l e R s m args below meth c H locs cells slots (MQ below (mQ D cl tys post A) args s cells slots A) (F0 m pc ls [.long x]) :=
  W.lret S.1 S.2.1 hr (fun t ht hW => mw_end (A1 := A) hK hG hp t ht hW) hG.2.2.1.2.2 hdg hlocks
theorem mw_vret {post : Option Value → mM → Prop} (S : CallFix p m c cc nL s args Ts own) (hr : meth.sig.returnType = none) (hlocks : meth.locks = false) (hK : va_K D cl tys s) (hG : mG D cl A s.heap w H locs) (hdg : decode cc pc = .ok (.return_, 1)) (hp : post none w) : W p l e R s m args below meth c H locs cells slots (MQ below (mQ D cl tys post A) args s cells slots A) (F0 m pc ls []) :=
  W.vret S.1 S.2.1 hr (fun t ht hW => mw_end (A1 := A) hK hG hp t ht hW) hG.2.2.1.2.2 hdg hlocks
theorem mw_aret {post : Option Value → mM → Prop} {r : Option Nat} {n : String} (S : CallFix p m c cc nL s args Ts own) (hr : meth.sig.returnType = some (.object n)) (hlocks : meth.locks = false) (hK : va_K D cl tys s) (hG : mG D cl A s.heap w H locs) (hdg : decode cc pc = .ok (.areturn, 1)) (hp : post (some (va_rf r)) w) : W p l e R s m args below meth c H locs cells slots (MQ below (mQ D cl tys post A) args s cells slots A) (F0 m pc ls [va_rf r]) :=
  W.aret S.1 S.2.1 hr (Or.inl ⟨n, rfl⟩) (va_rf_or r) (fun t ht hW => mw_end (A1 := A) hK hG hp t ht hW) hG.2.2.1.2.2 hdg hlocks
/-- fields -/
theorem mw_get {ref C : String} {T : u_T} {N ci index : Nat} (S : CallFix p m c cc nL s args Ts own) (hin : ∀ x ∈ u_ws C T N, x ∈ Ts) (hK : va_K D cl tys s) (hG : mG D cl A H0 w H locs) {fs : List Value} (hw : w a = some (.inr (ci, fs))) (hc : cl[ci]? = some (C, T, N)) (k : Nat) (hk : k < N) (hlink : Cond.fieldLink own index ref (T k).2.1 (T k).2.2.1 ∈ Ts) (hsame : ∀ x, s.fieldFound? (T k).1 (T k).2.1 (T k).2.2.1 = some x → s.fieldFound? ref (T k).2.1 (T k).2.2.1 = some x) {v : Value} (hv : fs[k]? = some v) (hdg : decode cc pc = .ok (.getfield index, 3))
    (kk : W p l e R s m args below meth c H locs cells slots Q (F0 m (pc + 3) ls (v :: rest))) : W p l e R s m args below meth c H locs cells slots Q (F0 m pc ls (.ref a :: rest)) :=
  va_get S.1 S.2.1 S.2.2.2.2 hin S.2.2.2.1 hK (hG.1.one hw) 0 rfl hc k hk (S.2.2.2.2 _ hlink) hsame hv hdg kk
theorem mw_put {ref C : String} {T : u_T} {N ci index : Nat} (S : CallFix p m c cc nL s args Ts own) (hin : ∀ x ∈ u_ws C T N, x ∈ Ts) (ty0 : Nat → FieldType) (hty : ∀ k, k < N → parseFieldDescriptor (T k).2.2.1 = some (ty0 k)) (hnm : ∀ a, a < N → ∀ b, b < N → a ≠ b → (T a).2.1 ≠ (T b).2.1) (hK : va_K D cl tys s) (hG : mG D cl A H0 w H locs) {fs : List Value} (hw : w a = some (.inr (ci, fs))) (hc : cl[ci]? = some (C, T, N)) (k : Nat) (hk : k < N) (hlink : Cond.fieldLink own index ref (T k).2.1 (T k).2.2.1 ∈ Ts) (hsame : ∀ x, s.fieldFound? (T k).1 (T k).2.1 (T k).2.2.1 = some x → s.fieldFound? ref (T k).2.1 (T k).2.2.1 = some x) (hfin : (T k).2.2.2 = false) {ty : FieldType} {v : Value} (hd : parseFieldDescriptor (T k).2.2.1 = some ty) (hn : narrow ty v = v) (hfit : fits ty v = true) (hl : k < fs.length) (hdg : decode cc pc = .ok (.putfield index, 3))
    (kk : ∀ (H1 : Heap) (locs1 : List Loc), mG D cl A H0 (mU w a (.inr (ci, fs.set k v))) H1 locs1 → W p l e R s m args below meth c H1 locs1 cells slots Q (F0 m (pc + 3) ls rest)) : W p l e R s m args below meth c H locs cells slots Q (F0 m pc ls (v :: .ref a :: rest)) := by
  obtain ⟨hexec, hb, -, hown, hts⟩ := S
  have hap := va_apart (own := own) hts hin ty0 hty hnm hK hc
  obtain ⟨r, h1, cell, q1, q2, q3, q4⟩ := hG.1 a _ hw
  have hr : r = (C, T, N) := Option.some.inj (h1.symm.trans hc)
  subst hr
  obtain ⟨hS, hfc, kC, hkC, hkind⟩ := hK.1 ci _ hc
  obtain ⟨cf, kf, fi, f, hi, hsl⟩ := hS k hk
  have hlay := hts _ (hin _ (u_in_lay hk))
  unfold u_lay at hlay
  rw [if_neg (by rw [hfin]; decide)] at hlay
  have hst := (u_facts hfc hkC (u_lays hts hin hk) hi).1
  have h6 := u_store hfc hkC hkind hlay hi hd hn hfit
  refine W.putK hexec hb (f := f) ⟨hown, hts _ hlink, ⟨_, _, _, hsame _ hi⟩, hst⟩ (by rw [q2]; exact h6) q1 q3 (by rw [hsl]; exact k2_hasslot (q4 k hk)) rfl rfl hdg fun H' e1 e2 e3 => ?_
  rw [hsl] at e1 ⊢
  exact kk H' _ (hG.put hw ⟨_, hc, t_OB.to (V := updV (vp_V fs) k v) ⟨_, e1, q2, q3, t_set q4 hap hk v⟩ (fun j _ => vp_updV_set hl v j)⟩ e2 e3)
theorem mw_putF {ref C : String} {T : u_T} {N ci index : Nat} (S : CallFix p m c cc nL s args Ts own) (hin : ∀ x ∈ u_ws C T N, x ∈ Ts) (ty0 : Nat → FieldType) (hty : ∀ k, k < N → parseFieldDescriptor (T k).2.2.1 = some (ty0 k)) (hnm : ∀ a, a < N → ∀ b, b < N → a ≠ b → (T a).2.1 ≠ (T b).2.1) (hK : va_K D cl tys s) (hG : mG D cl A H0 w H locs) {fs : List Value} (hw : w a = some (.inr (ci, fs))) (hc : cl[ci]? = some (C, T, N)) (k : Nat) (hk : k < N) (hlink : Cond.fieldLink own index ref (T k).2.1 (T k).2.2.1 ∈ Ts) (hsame : ∀ x, s.fieldFound? (T k).1 (T k).2.1 (T k).2.2.1 = some x → s.fieldFound? ref (T k).2.1 (T k).2.2.1 = some x) (hfin : (T k).2.2.2 = true) (hin2 : meth.name = "<init>") (hdecl : (T k).1 = own) {ty : FieldType} {v : Value} (hd : parseFieldDescriptor (T k).2.2.1 = some ty) (hn : narrow ty v = v) (hfit : fits ty v = true) (hl : k < fs.length) (hdg : decode cc pc = .ok (.putfield index, 3))
    (kk : ∀ (H1 : Heap) (locs1 : List Loc), mG D cl A H0 (mU w a (.inr (ci, fs.set k v))) H1 locs1 → W p l e R s m args below meth c H1 locs1 cells slots Q (F0 m (pc + 3) ls rest)) : W p l e R s m args below meth c H locs cells slots Q (F0 m pc ls (v :: .ref a :: rest)) := by
  obtain ⟨hexec, hb, -, hown, hts⟩ := S
  have hap := va_apart (own := own) hts hin ty0 hty hnm hK hc
  obtain ⟨r, h1, cell, q1, q2, q3, q4⟩ := hG.1 a _ hw
  have hr : r = (C, T, N) := Option.some.inj (h1.symm.trans hc)
  subst hr
  obtain ⟨hS, hfc, kC, hkC, hkind⟩ := hK.1 ci _ hc
  obtain ⟨cf, kf, fi, f, hi, hsl⟩ := hS k hk
  have hlay := hts _ (hin _ (u_in_lay hk))
  unfold u_lay at hlay
  rw [if_pos hfin] at hlay
  have hst := (u_facts hfc hkC (u_lays hts hin hk) hi).1
  have hcf : m.cls = cf := by
    obtain ⟨_, _, c', _, _, _, -, -, hf', -, -, -, hown2, -⟩ := Cond.laysFinal_spec hlay
    have e1 : c' = cf := by have := hi.symm.trans hf'; simp at this; exact this.1.symm
    rw [hdecl] at hown2
    rw [← e1]; exact Option.some.inj (hown.symm.trans hown2)
  have h6 := u_fits hfc hkC hkind (Or.inr hlay) hi hd hn hfit
  refine W.putFinK hexec hb hown (hts _ hlink) (hsame _ hi) hst hcf hin2 (by rw [q2]; exact h6) q1 q3 (by rw [hsl]; exact k2_hasslot (q4 k hk)) rfl rfl hdg fun H' e1 e2 e3 => ?_
  rw [hsl] at e1 ⊢
  exact kk H' _ (hG.put hw ⟨_, hc, t_OB.to (V := updV (vp_V fs) k v) ⟨_, e1, q2, q3, t_set q4 hap hk v⟩ (fun j _ => vp_updV_set hl v j)⟩ e2 e3)
/-- arrays -/
theorem mw_iald (S : CallFix p m c cc nL s args Ts own) (hK : va_K D cl tys s) (hG : mG D cl A H0 w H locs) (t0 : Nat) {cA : ClassId} {n : Nat} {f : Nat → Int32} (hw : w a = some (.inl (cA, n, .inl f))) (ht : tys[t0]? = some (cA, .int)) {i : Int32} (j : Nat) (hj : j < n) (hi : i.toNatClampNeg = j) (h0 : ¬ i < 0) (hdg : decode cc pc = .ok (.iaload, 1))
    (kk : W p l e R s m args below meth c H locs cells slots Q (F0 m (pc + 1) ls (.int (f j) :: rest))) : W p l e R s m args below meth c H locs cells slots Q (F0 m pc ls (.int i :: .ref a :: rest)) := by
  subst hi
  exact va_iald S.1 S.2.1 hK (hG.1.one hw) 0 t0 rfl ht (fun q => q.elim h0 (fun q => absurd hj (Nat.not_lt.mpr q))) hdg kk
theorem mw_aald (S : CallFix p m c cc nL s args Ts own) (hK : va_K D cl tys s) (hG : mG D cl A H0 w H locs) (t0 : Nat) {cA : ClassId} {C : String} {n : Nat} {f : Nat → Option Nat} (hw : w a = some (.inl (cA, n, .inr (.inr (.inr (.inr f)))))) (ht : tys[t0]? = some (cA, .object C)) {i : Int32} (j : Nat) (hj : j < n) (hi : i.toNatClampNeg = j) (h0 : ¬ i < 0) (hdg : decode cc pc = .ok (.aaload, 1))
    (kk : W p l e R s m args below meth c H locs cells slots Q (F0 m (pc + 1) ls (va_rf (f j) :: rest))) : W p l e R s m args below meth c H locs cells slots Q (F0 m pc ls (.int i :: .ref a :: rest)) := by
  subst hi
  exact va_aldq S.1 S.2.1 hK (hG.1.one hw) 0 t0 rfl ht (fun q => q.elim h0 (fun q => absurd hj (Nat.not_lt.mpr q))) hdg kk
theorem mw_alen (S : CallFix p m c cc nL s args Ts own) (hK : va_K D cl tys s) (hG : mG D cl A H0 w H locs) (t0 : Nat) {cA : ClassId} {x : vp_A} (hw : w a = some (.inl (cA, x))) {ty : FieldType} (ht : tys[t0]? = some (cA, ty)) (hdg : decode cc pc = .ok (.arraylength, 1))
    (kk : W p l e R s m args below meth c H locs cells slots Q (F0 m (pc + 1) ls (.int (nI x.1) :: rest))) : W p l e R s m args below meth c H locs cells slots Q (F0 m pc ls (.ref a :: rest)) :=
  va_alen S.1 S.2.1 hK (hG.1.one hw) 0 t0 rfl ht rfl hdg kk
theorem mw_iast (S : CallFix p m c cc nL s args Ts own) (hK : va_K D cl tys s) (hG : mG D cl A H0 w H locs) (t0 : Nat) {cA : ClassId} {n : Nat} {f : Nat → Int32} (hw : w a = some (.inl (cA, n, .inl f))) (ht : tys[t0]? = some (cA, .int)) {i x : Int32} (j : Nat) (hj : j < n) (hi : i.toNatClampNeg = j) (h0 : ¬ i < 0) (hdg : decode cc pc = .ok (.iastore, 1))
    (kk : ∀ (H1 : Heap) (locs1 : List Loc), mG D cl A H0 (mU w a (.inl (cA, n, .inl (va_up f j x)))) H1 locs1 → W p l e R s m args below meth c H1 locs1 cells slots Q (F0 m (pc + 1) ls rest)) : W p l e R s m args below meth c H locs cells slots Q (F0 m pc ls (.int x :: .int i :: .ref a :: rest)) := by
  subst hi
  have hin : vp_in i n := fun q => q.elim h0 (fun q => absurd hj (Nat.not_lt.mpr q))
  refine W.iast S.1 S.2.1 (hG.1 a _ hw) ((hK.2 t0 _ ht).1 n (fun j => .int (f j))) (fun q => by cases q) (by show ¬ (i < 0 ∨ (arrV _ _ _).slots.size ≤ _); rw [arrV_size]; exact hin) rfl rfl hdg fun H1 e z oq => ?_
  refine kk H1 _ (hG.put hw ?_ z oq)
  show H1[a]? = some (vp_cell _ _)
  rw [e, vp_cell_i, vp_cell_i, arrV_store]
  congr 2
  funext q
  by_cases hq : q = i.toNatClampNeg
  · subst hq
    simp [updV, va_up]
  · simp [updV, va_up, hq]
theorem mw_aast (S : CallFix p m c cc nL s args Ts own) (hK : va_K D cl tys s) (hG : mG D cl A H0 w H locs) (t0 ci : Nat) {cA : ClassId} {r : vw_C} {n v : Nat} {vs : List Value} {f : Nat → Option Nat} (hw : w a = some (.inl (cA, n, .inr (.inr (.inr (.inr f)))))) (ht : tys[t0]? = some (cA, .object r.1)) (hv : w v = some (.inr (ci, vs))) (hc : cl[ci]? = some r) {i : Int32} (j : Nat) (hj : j < n) (hi : i.toNatClampNeg = j) (h0 : ¬ i < 0) (hdg : decode cc pc = .ok (.aastore, 1))
    (kk : ∀ (H1 : Heap) (locs1 : List Loc), mG D cl A H0 (mU w a (.inl (cA, n, .inr (.inr (.inr (.inr (va_up f j (some v)))))))) H1 locs1 → W p l e R s m args below meth c H1 locs1 cells slots Q (F0 m (pc + 1) ls rest)) : W p l e R s m args below meth c H locs cells slots Q (F0 m pc ls (.ref v :: .int i :: .ref a :: rest)) := by
  subst hi
  obtain ⟨r', hr', cellV, g1, g2, g3, -⟩ := hG.1 v _ hv
  have hcls := (hK.1 ci r hc).2
  obtain ⟨kA, comp, k1, k2, k3, -⟩ := (hK.2 t0 _ ht).2
  have hcomp : comp = D.1 ci := Option.some.inj (k3.symm.trans hcls.1)
  subst hcomp
  obtain ⟨kC, hkC, -⟩ := hcls.2
  refine W.aast S.1 S.2.1 (hG.1 a _ hw) (fun q h => by cases h) (fun h => by cases h) k1 k2 rfl hkC ⟨h0, by show _ < (arrV _ _ _).slots.size; rw [arrV_size]; exact hj⟩ g1 (fun q h => by rw [g3] at h; cases h) (by rw [g2]; exact hkC) (by rw [g2]; exact va_assign hcls) rfl rfl hdg fun H1 e z oq => ?_
  refine kk H1 _ (hG.put hw ?_ z oq)
  show H1[a]? = some (vp_cell _ _)
  rw [e, vp_cell_q, vp_cell_q, arrV_store]
  congr 2
  funext q
  by_cases hq : q = i.toNatClampNeg
  · subst hq
    simp [updV, va_up, va_rf]
  · simp [updV, va_up, hq]
theorem mw_aastN (S : CallFix p m c cc nL s args Ts own) (hK : va_K D cl tys s) (hG : mG D cl A H0 w H locs) (t0 : Nat) {cA : ClassId} {C : String} {n : Nat} {f : Nat → Option Nat} (hw : w a = some (.inl (cA, n, .inr (.inr (.inr (.inr f)))))) (ht : tys[t0]? = some (cA, .object C)) {i : Int32} (j : Nat) (hj : j < n) (hi : i.toNatClampNeg = j) (h0 : ¬ i < 0) (hdg : decode cc pc = .ok (.aastore, 1))
    (kk : ∀ (H1 : Heap) (locs1 : List Loc), mG D cl A H0 (mU w a (.inl (cA, n, .inr (.inr (.inr (.inr (va_up f j none))))))) H1 locs1 → W p l e R s m args below meth c H1 locs1 cells slots Q (F0 m (pc + 1) ls rest)) : W p l e R s m args below meth c H locs cells slots Q (F0 m pc ls (.null :: .int i :: .ref a :: rest)) := by
  subst hi
  have hin : vp_in i n := fun q => q.elim h0 (fun q => absurd hj (Nat.not_lt.mpr q))
  refine va_WaastN (C := C) S.1 S.2.1 (hG.1 a _ hw) ((hK.2 t0 _ ht).1 n (fun j => va_rf (f j))) (fun h => by cases h) (by show ¬ (i < 0 ∨ (arrV _ _ _).slots.size ≤ _); rw [arrV_size]; exact hin) rfl rfl hdg fun H1 e z oq => ?_
  refine kk H1 _ (hG.put hw ?_ z oq)
  show H1[a]? = some (vp_cell _ _)
  rw [e, vp_cell_q, vp_cell_q, arrV_store]
  congr 2
  funext q
  by_cases hq : q = i.toNatClampNeg
  · subst hq
    simp [updV, va_up, va_rf]
  · simp [updV, va_up, hq]
/-- a reference or null, stored -/
theorem mw_aastq (S : CallFix p m c cc nL s args Ts own) (hK : va_K D cl tys s) (hG : mG D cl A H0 w H locs) (t0 ci : Nat) {cA : ClassId} {r : vw_C} {n : Nat} {v : Option Nat} {f : Nat → Option Nat} (hw : w a = some (.inl (cA, n, .inr (.inr (.inr (.inr f)))))) (ht : tys[t0]? = some (cA, .object r.1)) (hv : ∀ x, v = some x → ∃ vs, w x = some (.inr (ci, vs))) (hc : cl[ci]? = some r) {i : Int32} (j : Nat) (hj : j < n) (hi : i.toNatClampNeg = j) (h0 : ¬ i < 0) (hdg : decode cc pc = .ok (.aastore, 1))
    (kk : ∀ (H1 : Heap) (locs1 : List Loc), mG D cl A H0 (mU w a (.inl (cA, n, .inr (.inr (.inr (.inr (va_up f j v))))))) H1 locs1 → W p l e R s m args below meth c H1 locs1 cells slots Q (F0 m (pc + 1) ls rest)) : W p l e R s m args below meth c H locs cells slots Q (F0 m pc ls (va_rf v :: .int i :: .ref a :: rest)) := by
  cases v with
  | none => exact mw_aastN S hK hG t0 hw ht j hj hi h0 hdg kk
  | some x =>
    obtain ⟨vs, hx⟩ := hv x rfl
    exact mw_aast S hK hG t0 ci hw ht hx hc j hj hi h0 hdg kk
/-- makings -/
theorem mw_new {C : String} {T : u_T} {N ci index : Nat} (S : CallFix p m c cc nL s args Ts own) (hin : ∀ x ∈ u_ws C T N, x ∈ Ts) (ty : Nat → FieldType) (hty : ∀ k, k < N → parseFieldDescriptor (T k).2.2.1 = some (ty k)) (hcl : Cond.classLink own index C ∈ Ts) (hinst : Cond.instantiable C N ∈ Ts) (hini : Cond.initialized C ∈ Ts) (hK : va_K D cl tys s) (hG : mG D cl A H0 w H locs) (hc : cl[ci]? = some (C, T, N)) {fs : List Value} (hfs : ∀ j, j < N → defaultValue (ty j) = vp_V fs j) (hcells : cells + 1 ≤ R.cells) (hslots : slots + N ≤ R.slots) (hdg : decode cc pc = .ok (.new index, 3))
    (kk : ∀ (q : Nat) (H1 : Heap), w q = none → mG D cl A H0 (mU w q (.inr (ci, fs))) H1 locs → W p l e R s m args below meth c H1 locs (cells + 1) (slots + N) Q (F0 m (pc + 3) ls (.ref q :: rest))) : W p l e R s m args below meth c H locs cells slots Q (F0 m pc ls rest) := by
  obtain ⟨hexec, hb, -, hown, hts⟩ := S
  have hKn := hK.1 ci _ hc
  refine W.newcK hexec hb hown (hts _ hcl) (hts _ hinst) (hts _ hini) rfl hdg hcells hslots hKn.2.1 rfl fun H1 kC hkC e1 z1 o1 => ?_
  exact kk H.size H1 hG.new (hG.push ⟨_, hc, (u_born ty hts hin hKn hkC e1 hty).to hfs⟩ z1 o1)
theorem mw_newi (S : CallFix p m c cc nL s args Ts own) (harr : Cond.arrayClass .int ∈ Ts) (hK : va_K D cl tys s) (hG : mG D cl A H0 w H locs) (t0 : Nat) {cA : ClassId} (ht : tys[t0]? = some (cA, .int)) {n : Int32} (N : Nat) (hn : ¬ n < 0) (hN : n.toNatClampNeg = N) (hbytes : N ≤ 134217728) (hcells : cells + 1 ≤ R.cells) (hslots : slots + N ≤ R.slots) (hdg : decode cc pc = .ok (.newarray .int, 2))
    (kk : ∀ (q : Nat) (H1 : Heap), w q = none → mG D cl A H0 (mU w q (.inl (cA, N, .inl (fun _ => 0)))) H1 locs → W p l e R s m args below meth c H1 locs (cells + 1) (slots + N) Q (F0 m (pc + 2) ls (.ref q :: rest))) : W p l e R s m args below meth c H locs cells slots Q (F0 m pc ls (.int n :: rest)) := by
  refine va_newaK (atype := .int) S.1 S.2.1 (S.2.2.2.2 _ harr) rfl hdg rfl hn hN (by show N * 4 ≤ _; omega) hcells hslots rfl fun H1 cB e1 z1 o1 hAr hNm => ?_
  have hcc : cB = cA := Option.some.inj (hNm.symm.trans (hK.2 t0 _ ht).2)
  subst hcc
  refine kk H.size H1 hG.new (hG.push ?_ z1 o1)
  show H1[H.size]? = some (vp_cell _ _)
  rw [vp_cell_i]
  exact e1
theorem mw_newq {C : String} {index : Nat} (S : CallFix p m c cc nL s args Ts own) (hclink : Cond.classLink own index C ∈ Ts) (hover : va_AO C s) (hK : va_K D cl tys s) (hG : mG D cl A H0 w H locs) (t0 : Nat) {cA : ClassId} (ht : tys[t0]? = some (cA, .object C)) {n : Int32} (N : Nat) (hn : ¬ n < 0) (hN : n.toNatClampNeg = N) (hbytes : N ≤ 134217728) (hcells : cells + 1 ≤ R.cells) (hslots : slots + N ≤ R.slots) (hdg : decode cc pc = .ok (.anewarray index, 3))
    (kk : ∀ (q : Nat) (H1 : Heap), w q = none → mG D cl A H0 (mU w q (.inl (cA, N, .inr (.inr (.inr (.inr (fun _ => none))))))) H1 locs → W p l e R s m args below meth c H1 locs (cells + 1) (slots + N) Q (F0 m (pc + 3) ls (.ref q :: rest))) : W p l e R s m args below meth c H locs cells slots Q (F0 m pc ls (.int n :: rest)) := by
  subst hN
  refine W.anew S.1 S.2.1 S.2.2.2.1 (S.2.2.2.2 _ hclink) (va_AO.use hover) rfl hdg rfl hn (by omega) hcells hslots fun cB kA comp f1 f2 f3 f4 => ?_
  obtain ⟨-, -, -, -, -, hNm⟩ := (hK.2 t0 _ ht).2
  have hcc : cB = cA := Option.some.inj (f1.symm.trans hNm)
  subst hcc
  generalize hH1 : H.push ({ cls := cB, slots := Array.replicate n.toNatClampNeg .null, vm := .none } : Cell) = H1
  refine kk H.size H1 hG.new (hG.push ?_ (by rw [← hH1, Array.size_push]) (fun q hq => by rw [← hH1, Array.getElem?_push, if_neg (Nat.ne_of_lt hq)]))
  show H1[H.size]? = some (vp_cell _ _)
  rw [vp_cell_q, ← hH1, Array.getElem?_push_size, ← arrV_new]
  rfl
end MW
abbrev wsY (y : MethodName) (bytes : ByteArray) (maxL : Nat) (ret : Option FieldType) : List Cond := Cond.code y bytes maxL ret :: wsL
/-- what a callee is: its code among the words, a plain class, its number of parameters -/
def mCal (y : MethodName) (bytes : ByteArray) (maxL n : Nat) (ret : Option FieldType) : Prop := Cond.code y bytes maxL ret ∈ wsL ∧ (y.cls ≠ "java/lang/invoke/MethodHandle" ∧ y.cls ≠ "java/lang/invoke/VarHandle" ∧ (parseMethodDescriptor y.desc).map (fun d => d.parameters.length) = some n)
section MX
variable {p : Program} {l : Launch} {e : Env} {R : Room} {s : State} {m : MethodId} {args : Array Value} {below : List Frame} {meth : Method} {c : Code} {H : Heap} {locs : List Loc} {cells slots : Nat} {Q : State → Prop}
variable {cc : ByteArray} {pc nL : Nat} {ls : Array Slot} {rest st0 : List Value} {D : va_G} {cl : List vw_C} {A : Nat → Prop} {a : Nat} {tys : List (ClassId × FieldType)} {w : mM} {H0 : Heap} {own : String}
theorem lv_eqi {x y : Int32} (h : x = y) (k : W p l e R s m args below meth c H locs cells slots Q (F0 m pc ls (.int y :: rest))) : W p l e R s m args below meth c H locs cells slots Q (F0 m pc ls (.int x :: rest)) := h ▸ k
theorem lv_eql {x y : Int64} (h : x = y) (k : W p l e R s m args below meth c H locs cells slots Q (F0 m pc ls (.long y :: rest))) : W p l e R s m args below meth c H locs cells slots Q (F0 m pc ls (.long x :: rest)) := h ▸ k
theorem lv_eqv {x y : Value} (h : x = y) (k : W p l e R s m args below meth c H locs cells slots Q (F0 m pc ls (y :: rest))) : W p l e R s m args below meth c H locs cells slots Q (F0 m pc ls (x :: rest)) := h ▸ k
theorem mw_zald {Ts : List Cond} (S : CallFix p m c cc nL s args Ts own) (hK : va_K D cl tys s) (hG : mG D cl A H0 w H locs) (t0 : Nat) {cA : ClassId} {n : Nat} {f : Nat → Int32} (hw : w a = some (.inl (cA, n, .inl f))) (ht : tys[t0]? = some (cA, .boolean)) {i : Int32} (j : Nat) (hj : j < n) (hi : i.toNatClampNeg = j) (h0 : ¬ i < 0) (hdg : decode cc pc = .ok (.baload, 1))
    (kk : W p l e R s m args below meth c H locs cells slots Q (F0 m (pc + 1) ls (.int (f j) :: rest))) : W p l e R s m args below meth c H locs cells slots Q (F0 m pc ls (.int i :: .ref a :: rest)) := by
  subst hi
  exact va_zald S.1 S.2.1 hK (hG.1.one hw) 0 t0 rfl ht (fun q => q.elim h0 (fun q => absurd hj (Nat.not_lt.mpr q))) hdg kk
theorem mw_zast {Ts : List Cond} (S : CallFix p m c cc nL s args Ts own) (hK : va_K D cl tys s) (hG : mG D cl A H0 w H locs) (t0 : Nat) {cA : ClassId} {n : Nat} {f : Nat → Int32} (hw : w a = some (.inl (cA, n, .inl f))) (ht : tys[t0]? = some (cA, .boolean)) {i x : Int32} (j : Nat) (hj : j < n) (hi : i.toNatClampNeg = j) (h0 : ¬ i < 0) (hx : vp_nar .boolean x = x) (hdg : decode cc pc = .ok (.bastore, 1))
    (kk : ∀ (H1 : Heap) (locs1 : List Loc), mG D cl A H0 (mU w a (.inl (cA, n, .inl (va_up f j x)))) H1 locs1 → W p l e R s m args below meth c H1 locs1 cells slots Q (F0 m (pc + 1) ls rest)) : W p l e R s m args below meth c H locs cells slots Q (F0 m pc ls (.int x :: .int i :: .ref a :: rest)) := by
  subst hi
  have hin : vp_in i n := fun q => q.elim h0 (fun q => absurd hj (Nat.not_lt.mpr q))
  refine W.zast S.1 S.2.1 (hG.1 a _ hw) ((hK.2 t0 _ ht).1 n (fun j => .int (f j))) (fun q => by cases q) (by show ¬ (i < 0 ∨ (arrV _ _ _).slots.size ≤ _); rw [arrV_size]; exact hin) rfl rfl hdg fun H1 e z oq => ?_
  refine kk H1 _ (hG.put hw ?_ z oq)
  show H1[a]? = some (vp_cell _ _)
  have hx2 : narrow .boolean (.int x) = .int x := by
    unfold vp_nar at hx
    cases hq : narrow .boolean (.int x) with
    | int y => rw [hq] at hx; exact congrArg Value.int hx
    | _ => simp [narrow] at hq
  rw [e, vp_cell_i, vp_cell_i, arrV_store]
  congr 2
  funext q
  by_cases hq : q = i.toNatClampNeg
  · subst hq
    simp [updV, va_up, hx2]
  · simp [updV, va_up, hq]
theorem mw_newz {Ts : List Cond} (S : CallFix p m c cc nL s args Ts own) (harr : Cond.arrayClass .boolean ∈ Ts) (hK : va_K D cl tys s) (hG : mG D cl A H0 w H locs) (t0 : Nat) {cA : ClassId} (ht : tys[t0]? = some (cA, .boolean)) {n : Int32} (N : Nat) (hn : ¬ n < 0) (hN : n.toNatClampNeg = N) (hbytes : N ≤ 134217728) (hcells : cells + 1 ≤ R.cells) (hslots : slots + N ≤ R.slots) (hdg : decode cc pc = .ok (.newarray .boolean, 2))
    (kk : ∀ (q : Nat) (H1 : Heap), w q = none → mG D cl A H0 (mU w q (.inl (cA, N, .inl (fun _ => 0)))) H1 locs → W p l e R s m args below meth c H1 locs (cells + 1) (slots + N) Q (F0 m (pc + 2) ls (.ref q :: rest))) : W p l e R s m args below meth c H locs cells slots Q (F0 m pc ls (.int n :: rest)) := by
  refine va_newaK (atype := .boolean) S.1 S.2.1 (S.2.2.2.2 _ harr) rfl hdg rfl hn hN (by show N * 1 ≤ _; omega) hcells hslots rfl fun H1 cB e1 z1 o1 hAr hNm => ?_
  have hcc : cB = cA := Option.some.inj (hNm.symm.trans (hK.2 t0 _ ht).2)
  subst hcc
  refine kk H.size H1 hG.new (hG.push ?_ z1 o1)
  show H1[H.size]? = some (vp_cell _ _)
  rw [vp_cell_i]
  exact e1
/-- calls -/
theorem mCV {y : MethodName} {bytes : ByteArray} {maxL n index mc ms b ci N : Nat} {ret : Option FieldType} {rm : Room} {As fs : List Value} {post : Option Value → mM → Prop} {T : u_T} (S : CallFix p m c cc nL s args wsL own) (hM : mC l y (wsY y bytes maxL ret) rm D cl tys mc ms w (.ref b :: As) post) (hc : mCal y bytes maxL n ret) (m1 : Cond.methodLink own index y ∈ wsL) (m2 : Cond.instanceMethod y ∈ wsL) (m3 : Cond.selects y.cls y y ∈ wsL) (m4 : Cond.initialized y.cls ∈ wsL) (hK : va_K D cl tys s) (hN : mN s) (hG : mG D cl A H0 w H locs) (hw : w b = some (.inr (ci, fs))) (hcl : cl[ci]? = some (y.cls, T, N)) (hst : st0 = As.reverse ++ .ref b :: rest) (hn : As.length = n) (hsz : ls.size = nL) (hrest : (rest.map fun v => v.category).sum ≤ 8) (hR : rm.frames + 1 ≤ R.frames ∧ 8 + (maxL + 11) + rm.locals ≤ R.locals) (hrm : rm.cells = mc ∧ rm.slots = ms) (hf : cells + mc ≤ R.cells ∧ slots + ms ≤ R.slots) (hdg : decode cc pc = .ok (.invokevirtual index, 3))
    (kk : ∀ (v : Option Value) (w : mM) (H : Heap) (locs : List Loc), post v w → mG D cl A H0 w H locs → W p l e R s m args below meth c H locs (cells + mc) (slots + ms) Q (F0 m (pc + 3) ls (v.toList ++ rest))) : W p l e R s m args below meth c H locs cells slots Q (F0 m pc ls st0) := by
  have hT : ∀ x ∈ wsV own index y.cls y (wsY y bytes maxL ret), x ∈ wsL := by
    intro x hx
    unfold wsV at hx
    rcases List.mem_append.mp hx with h | h
    · simp only [List.mem_cons, List.not_mem_nil, or_false] at h
      rcases h with h | h | h | h <;> subst h <;> assumption
    · rcases List.mem_cons.mp h with h | h
      · subst h; exact hc.1
      · exact h
  exact mw_call (va_runV (As := As) (rest := rest) S (hM H.size) (cwV n S.2.2.2.2 (gL _ hT) rfl hrm.1 hrm.2 ⟨rfl, hc.2⟩ hR) (mPreV hK hN hG hw hcl) rfl hn hsz hst (lv_room hrest) hdg hf) hG kk
theorem mCS {y : MethodName} {bytes : ByteArray} {maxL n index mc ms : Nat} {ret : Option FieldType} {rm : Room} {As : List Value} {post : Option Value → mM → Prop} (S : CallFix p m c cc nL s args wsL own) (hM : mC l y (wsY y bytes maxL ret) rm D cl tys mc ms w As post) (hc : mCal y bytes maxL n ret) (m0 : y.cls = own) (m1 : Cond.methodLink own index y ∈ wsL) (m2 : Cond.static y ∈ wsL) (m4 : Cond.initialized own ∈ wsL) (hK : va_K D cl tys s) (hN : mN s) (hG : mG D cl A H0 w H locs) (hst : st0 = As.reverse ++ rest) (hn : As.length = n) (hsz : ls.size = nL) (hrest : (rest.map fun v => v.category).sum ≤ 8) (hR : rm.frames + 1 ≤ R.frames ∧ 8 + (maxL + 11) + rm.locals ≤ R.locals) (hrm : rm.cells = mc ∧ rm.slots = ms) (hf : cells + mc ≤ R.cells ∧ slots + ms ≤ R.slots) (hdg : decode cc pc = .ok (.invokestatic index, 3))
    (kk : ∀ (v : Option Value) (w : mM) (H : Heap) (locs : List Loc), post v w → mG D cl A H0 w H locs → W p l e R s m args below meth c H locs (cells + mc) (slots + ms) Q (F0 m (pc + 3) ls (v.toList ++ rest))) : W p l e R s m args below meth c H locs cells slots Q (F0 m pc ls st0) := by
  have hT : ∀ x ∈ wsS own index y (wsY y bytes maxL ret), x ∈ wsL := by
    intro x hx
    unfold wsS at hx
    rcases List.mem_append.mp hx with h | h
    · simp only [List.mem_cons, List.not_mem_nil, or_false] at h
      rcases h with h | h | h <;> subst h <;> assumption
    · rcases List.mem_cons.mp h with h | h
      · subst h; exact hc.1
      · exact h
  exact mw_call (va_runS (As := As) (rest := rest) S (hM H.size) (cwS n S.2.2.2.2 (gL _ hT) rfl hrm.1 hrm.2 ⟨m0, hc.2⟩ hR) (mPreS hK hN hG) rfl hn hsz hst (lv_room hrest) hdg hf) hG kk
theorem mCI {y : MethodName} {bytes : ByteArray} {maxL n index mc ms b : Nat} {rm : Room} {As : List Value} {post : Option Value → mM → Prop} (S : CallFix p m c cc nL s args wsL own) (hM : mC l y (wsY y bytes maxL none) rm D cl tys mc ms w (.ref b :: As) post) (hc : mCal y bytes maxL n none) (m0 : y.name = "<init>") (m1 : Cond.methodLink own index y ∈ wsL) (m2 : Cond.instanceMethod y ∈ wsL) (m4 : Cond.initialized y.cls ∈ wsL) (hK : va_K D cl tys s) (hN : mN s) (hG : mG D cl A H0 w H locs) (hst : st0 = As.reverse ++ .ref b :: rest) (hn : As.length = n) (hsz : ls.size = nL) (hrest : (rest.map fun v => v.category).sum ≤ 8) (hR : rm.frames + 1 ≤ R.frames ∧ 8 + (maxL + 11) + rm.locals ≤ R.locals) (hrm : rm.cells = mc ∧ rm.slots = ms) (hf : cells + mc ≤ R.cells ∧ slots + ms ≤ R.slots) (hdg : decode cc pc = .ok (.invokespecial index, 3))
    (kk : ∀ (v : Option Value) (w : mM) (H : Heap) (locs : List Loc), post v w → mG D cl A H0 w H locs → W p l e R s m args below meth c H locs (cells + mc) (slots + ms) Q (F0 m (pc + 3) ls (v.toList ++ rest))) : W p l e R s m args below meth c H locs cells slots Q (F0 m pc ls st0) := by
  have hT : ∀ x ∈ wsY y bytes maxL none, x ∈ wsL := by
    intro x h
    rcases List.mem_cons.mp h with h | h
    · subst h; exact hc.1
    · exact h
  exact mw_call (va_runI (As := As) (rest := rest) S (hM H.size) (cwI n S.2.2.2.2 (gL _ hT) rfl hrm.1 hrm.2 (S.2.2.2.2 _ m4) (S.2.2.2.2 _ m1) (S.2.2.2.2 _ m2) m0 hc.2 hR) (mPreS hK hN hG) rfl hn hsz hst (lv_room hrest) hdg hf) hG kk
/-- calls of methods that another class declares -/
theorem mCU {x y : MethodName} {bytes : ByteArray} {maxL n index mc ms b ci N : Nat} {C owner : String} {ret : Option FieldType} {rm : Room} {As fs : List Value} {post : Option Value → mM → Prop} {T : u_T} (S : CallFix p m c cc nL s args wsL own) (hM : mC l y (wsY y bytes maxL ret) rm D cl tys mc ms w (.ref b :: As) post) (cw : va_CU R s args own C owner index x y bytes maxL ret (wsY y bytes maxL ret) rm mc ms n) (hK : va_K D cl tys s) (hN : mN s) (hG : mG D cl A H0 w H locs) (hw : w b = some (.inr (ci, fs))) (hcl : cl[ci]? = some (C, T, N)) (hst : st0 = As.reverse ++ .ref b :: rest) (hn : As.length = n) (hsz : ls.size = nL) (hrest : (rest.map fun v => v.category).sum ≤ 8) (hf : cells + mc ≤ R.cells ∧ slots + ms ≤ R.slots) (hdg : decode cc pc = .ok (.invokevirtual index, 3))
    (kk : ∀ (v : Option Value) (w : mM) (H : Heap) (locs : List Loc), post v w → mG D cl A H0 w H locs → W p l e R s m args below meth c H locs (cells + mc) (slots + ms) Q (F0 m (pc + 3) ls (v.toList ++ rest))) : W p l e R s m args below meth c H locs cells slots Q (F0 m pc ls st0) :=
  mw_call (va_runU (As := As) (rest := rest) S (hM H.size) cw (mPreV hK hN hG hw hcl) rfl hn hsz hst (lv_room hrest) hdg hf) hG kk
theorem mGU {x y : MethodName} {bytes : ByteArray} {maxL index : Nat} {C owner : String} {ret : Option FieldType} (hc : Cond.code y bytes maxL ret ∈ wsL) (m1 : Cond.methodLink own index x ∈ wsL) (m2 : Cond.sameMethod x.cls owner x.name x.desc ∈ wsL) (m3 : Cond.selects C x y ∈ wsL) (m4 : Cond.instanceMethod y ∈ wsL) (m5 : Cond.initialized y.cls ∈ wsL) : GoodIn wsL (va_wsU own index C owner x y (wsY y bytes maxL ret)) := by
  refine gL _ (fun z hz => ?_)
  unfold va_wsU at hz
  rcases List.mem_append.mp hz with h | h
  · simp only [List.mem_cons, List.not_mem_nil, or_false] at h
    rcases h with h | h | h | h | h <;> subst h <;> assumption
  · rcases List.mem_cons.mp h with h | h
    · subst h; exact hc
    · exact h
theorem mGO {x y : MethodName} {bytes : ByteArray} {maxL index : Nat} {C owner : String} {ret : Option FieldType} (hc : Cond.code y bytes maxL ret ∈ wsL) (m1 : Cond.methodLink own index x ∈ wsL) (m2 : Cond.sameMethod x.cls owner x.name x.desc ∈ wsL) (m6 : Cond.instanceMethod ⟨owner, x.name, x.desc⟩ ∈ wsL) (m3 : Cond.selects C x y ∈ wsL) (m4 : Cond.instanceMethod y ∈ wsL) (m5 : Cond.initialized y.cls ∈ wsL) : GoodIn wsL (va_wsO own index C owner x y (wsY y bytes maxL ret)) := by
  refine gL _ (fun z hz => ?_)
  unfold va_wsO at hz
  rcases List.mem_append.mp hz with h | h
  · simp only [List.mem_cons, List.not_mem_nil, or_false] at h
    rcases h with h | h | h | h | h | h <;> subst h <;> assumption
  · rcases List.mem_cons.mp h with h | h
    · subst h; exact hc
    · exact h
/-- a method's entry, over the one list of words -/
theorem mC.on {y : MethodName} {rm : Room} {mc ms maxL : Nat} {ret : Option FieldType} {av : List Value} {post : Option Value → mM → Prop} (hy : plainName y.cls = true) (hn : (lg_sl av).length ≤ maxL)
    (body : ∀ (p : Program) (e : Env) (s : State) (m : MethodId) (args : Array Value) (below : List Frame) (meth : Method) (c : Code) (ls : Array Slot), CallFix p m c cc maxL s args wsL y.cls → meth.sig.returnType = ret → meth.locks = false → meth.name = y.name → va_K D cl tys s → mN s → mG D cl (mA w s.heap.size) s.heap w s.heap [] → lv_has ls maxL (lv_args 0 av) →
      W p l e rm s m args below meth c s.heap [] 0 0 (MQ below (mQ D cl tys post (mA w s.heap.size)) args s mc ms (mA w s.heap.size)) (F0 m 0 ls [])) : mC l y (wsY y cc maxL ret) rm D cl tys mc ms w av post :=
  mC.of hy rfl hn (fun p e s m args below meth c ls S h1 h2 h3 h4 hN h5 h6 => body p e s m args below meth c ls ⟨S.1, S.2.1, S.2.2.1, S.2.2.2.1, fun x hx => S.2.2.2.2 x (List.mem_cons_of_mem _ hx)⟩ h1 h2 h3 h4 hN h5 h6)
end MX
