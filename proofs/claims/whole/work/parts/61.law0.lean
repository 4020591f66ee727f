/-! THE LAW: two worlds beside each other in one heap -/
theorem mG.sub {D : va_G} {cl : List vw_C} {A : Nat → Prop} {H0 H : Heap} {w w2 : mM} {locs : List Loc} (h : mG D cl A H0 w H locs) (hs : ∀ a e, w2 a = some e → w a = some e) : mG D cl A H0 w2 H locs :=
  ⟨fun a e ha => h.1 a e (hs a e ha), fun a e ha => h.2.1 a e (hs a e ha), h.2.2.1, h.2.2.2⟩
/-- a call's room within the law's -/
def Cal (l : Launch) (y : MethodName) (bytes : ByteArray) (maxL : Nat) (ret : Option FieldType) (D : va_G) (cl : List vw_C) (tys : List (ClassId × FieldType)) (mc ms : Nat) (w : mM) (av : List Value) (post : Option Value → mM → Prop) : Prop :=
  ∃ rm : Room, (rm.frames + 1 ≤ 9 ∧ 8 + (maxL + 11) + rm.locals ≤ 318) ∧ (rm.cells = mc ∧ rm.slots = ms) ∧ mC l y (wsY y bytes maxL ret) rm D cl tys mc ms w av post
section LW
variable {p : Program} {l : Launch} {e : Env} {s : State} {m : MethodId} {args : Array Value} {below : List Frame} {meth : Method} {c : Code} {H : Heap} {locs : List Loc} {cells slots : Nat} {Q : State → Prop}
variable {cc : ByteArray} {pc nL : Nat} {ls : Array Slot} {rest st0 : List Value} {D : va_G} {cl : List vw_C} {A : Nat → Prop} {a : Nat} {tys : List (ClassId × FieldType)} {w wF : mM} {H0 : Heap} {Ts : List Cond} {own : String}
theorem mw_callF {R : Room} {mc ms : Nat} {aa : Array Value} {post : Option Value → mM → Prop} (hr : va_Run p l e R s m args below meth c H locs cells slots mc ms (F0 m pc ls st0) rest (mQ D cl tys post (mA w H.size) aa) (mA w H.size)) (hG : mG D cl A H0 w H locs) (hF : mG D cl A H0 wF H locs) (hd : ∀ a e, w a = some e → wF a = none)
    (kk : ∀ (v : Option Value) (w' : mM) (H1 : Heap) (locs1 : List Loc), post v w' → mG D cl A H0 w' H1 locs1 → mG D cl A H0 wF H1 locs1 → (∀ a e, w' a = some e → wF a = none) → W p l e R s m args below meth c H1 locs1 (cells + mc) (slots + ms) Q (F0 m (pc + 3) ls (v.toList ++ rest))) : W p l e R s m args below meth c H locs cells slots Q (F0 m pc ls st0) := by
  obtain ⟨hP, hD, hS, hA⟩ := hG
  have hAA : ∀ q, mA w H.size q → A q := fun q h => by
    rcases h with ⟨e, h⟩ | h
    · exact hD q e h
    · exact hA q (Nat.le_trans hS.1 h)
  intro T hT X
  obtain ⟨v, st₀, t, T', L, h0, X', hL, e1, e2, ⟨⟨v', w', hv, hp, hP', hK', hD'⟩, hz, hk⟩, st⟩ := hr T hT X
  cases hv
  rw [h0] at hz hk
  have hS2 : va_S A H0 T'.heap (locs ++ L) := ⟨Nat.le_trans hS.1 (by rw [e1]; exact hz), fun q h1 h2 => by rw [e1, hk q (Nat.lt_of_lt_of_le h1 hS.1) (fun z => h2 (hAA q z))]; exact hS.2.1 q h1 h2, fun q hq => by
      rcases List.mem_append.mp hq with h | h
      · exact hS.2.2 q h
      · exact hAA _ (hL q h)⟩
  have hout : ∀ a e, wF a = some e → ¬ mA w H.size a := fun a e ha z => by
    rcases z with ⟨e2, h⟩ | h
    · rw [hd a e2 h] at ha; cases ha
    · have := hF.1.lt ha
      omega
  obtain ⟨t2, a1, b1⟩ := kk v w' T'.heap (locs ++ L) hp ⟨by rw [e1]; exact hP', fun a e h => hAA a (hD' a e h), hS2, hA⟩ ⟨fun a e ha => (hF.1 a e ha).kept (by rw [e1]; exact hk a (hF.1.lt ha) (hout a e ha)), hF.2.1, hS2, hA⟩ (fun a e ha => by
    cases hf : wF a with
    | none => rfl
    | some e2 => exact absurd (hD' a e ha) (hout a e2 hf)) T' rfl X'
  exact ⟨t2, st t2 a1, b1⟩
theorem law_V {y : MethodName} {bytes : ByteArray} {maxL n index mc ms b ci N : Nat} {ret : Option FieldType} {As fs : List Value} {post : Option Value → mM → Prop} {T : u_T} (S : CallFix p m c cc nL s args wsL own) (hM : Cal l y bytes maxL ret D cl tys mc ms w (.ref b :: As) post) (hc : mCal y bytes maxL n ret) (m1 : Cond.methodLink own index y ∈ wsL) (m2 : Cond.instanceMethod y ∈ wsL) (m3 : Cond.selects y.cls y y ∈ wsL) (m4 : Cond.initialized y.cls ∈ wsL) (hK : va_K D cl tys s) (hN : mN s) (hG : mG D cl A H0 w H locs) (hF : mG D cl A H0 wF H locs) (hd : ∀ a e, w a = some e → wF a = none) (hw : w b = some (.inr (ci, fs))) (hcl : cl[ci]? = some (y.cls, T, N)) (hst : st0 = As.reverse ++ .ref b :: rest) (hn : As.length = n) (hsz : ls.size = nL) (hrest : (rest.map fun v => v.category).sum ≤ 8) (hf : cells + mc ≤ room_1.cells ∧ slots + ms ≤ room_1.slots) (hdg : decode cc pc = .ok (.invokevirtual index, 3))
    (kk : ∀ (v : Option Value) (w : mM) (H : Heap) (locs : List Loc), post v w → mG D cl A H0 w H locs → mG D cl A H0 wF H locs → (∀ a e, w a = some e → wF a = none) → W p l e room_1 s m args below meth c H locs (cells + mc) (slots + ms) Q (F0 m (pc + 3) ls (v.toList ++ rest))) : W p l e room_1 s m args below meth c H locs cells slots Q (F0 m pc ls st0) := by
  obtain ⟨rm, hR, hrm, hM⟩ := hM
  have hT : ∀ x ∈ wsV own index y.cls y (wsY y bytes maxL ret), x ∈ wsL := by
    intro x hx
    unfold wsV at hx
    rcases List.mem_append.mp hx with h | h
    · simp only [List.mem_cons, List.not_mem_nil, or_false] at h
      rcases h with h | h | h | h <;> subst h <;> assumption
    · rcases List.mem_cons.mp h with h | h
      · subst h; exact hc.1
      · exact h
  exact mw_callF (va_runV (As := As) (rest := rest) S (hM H.size) (cwV n S.2.2.2.2 (gL _ hT) rfl hrm.1 hrm.2 ⟨rfl, hc.2⟩ hR) (mPreV hK hN hG hw hcl) rfl hn hsz hst (lv_room hrest) hdg hf) hG hF hd kk
theorem law_I {y : MethodName} {bytes : ByteArray} {maxL n index mc ms b : Nat} {As : List Value} {post : Option Value → mM → Prop} (S : CallFix p m c cc nL s args wsL own) (hM : Cal l y bytes maxL none D cl tys mc ms w (.ref b :: As) post) (hc : mCal y bytes maxL n none) (m0 : y.name = "<init>") (m1 : Cond.methodLink own index y ∈ wsL) (m2 : Cond.instanceMethod y ∈ wsL) (m4 : Cond.initialized y.cls ∈ wsL) (hK : va_K D cl tys s) (hN : mN s) (hG : mG D cl A H0 w H locs) (hF : mG D cl A H0 wF H locs) (hd : ∀ a e, w a = some e → wF a = none) (hst : st0 = As.reverse ++ .ref b :: rest) (hn : As.length = n) (hsz : ls.size = nL) (hrest : (rest.map fun v => v.category).sum ≤ 8) (hf : cells + mc ≤ room_1.cells ∧ slots + ms ≤ room_1.slots) (hdg : decode cc pc = .ok (.invokespecial index, 3))
    (kk : ∀ (v : Option Value) (w : mM) (H : Heap) (locs : List Loc), post v w → mG D cl A H0 w H locs → mG D cl A H0 wF H locs → (∀ a e, w a = some e → wF a = none) → W p l e room_1 s m args below meth c H locs (cells + mc) (slots + ms) Q (F0 m (pc + 3) ls (v.toList ++ rest))) : W p l e room_1 s m args below meth c H locs cells slots Q (F0 m pc ls st0) := by
  obtain ⟨rm, hR, hrm, hM⟩ := hM
  have hT : ∀ x ∈ wsY y bytes maxL none, x ∈ wsL := by
    intro x h
    rcases List.mem_cons.mp h with h | h
    · subst h; exact hc.1
    · exact h
  exact mw_callF (va_runI (As := As) (rest := rest) S (hM H.size) (cwI n S.2.2.2.2 (gL _ hT) rfl hrm.1 hrm.2 (S.2.2.2.2 _ m4) (S.2.2.2.2 _ m1) (S.2.2.2.2 _ m2) m0 hc.2 hR) (mPreS hK hN hG) rfl hn hsz hst (lv_room hrest) hdg hf) hG hF hd kk
end LW
/-- a script's int, or 0 behind its end -/
def cel (L : Nat) (xs : Nat → Int32) (k : Nat) : Int32 := if k < L then xs k else 0
def celB (b L : Nat) (xs : Nat → Int32) (U : State) : Prop := va_X b L xs U U.heap ∧ b < U.heap.size
theorem l_cell {l : Launch} {b L : Nat} {xs : Nat → Int32} (hL : L ≤ 2050) (k : Nat) (hk : k < 2) : Met l yL_cell (wsY yL_cell cL_cell 2 (some .int)) { frames := 0, cells := 0, slots := 0, locals := 0 } (va_Pc [.ref b, .int (nI k)] (celB b L xs)) (va_Qi (fun (r : Int32) (_ : Unit) => r = cel L xs k) (fun _ _ => True) (fun _ => False)) 0 0 (fun _ => False) := by
  refine Met.ofW (cc := cL_cell) (maxL := 2) (ret := some .int) (by decide) rfl ?_
  intro p e s m args below meth c s₁ B hml hv
  obtain ⟨rfl, hX, hbl⟩ := hv
  rw [lg_entry_eq]
  have hl := lv_entry ([.ref b, .int (nI k)]) (n := 2) (Nat.le_of_ble_eq_true rfl)
  generalize (lg_sl ([.ref b, .int (nI k)]) ++ List.replicate (2 - (lg_sl ([.ref b, .int (nI k)])).length) Slot.unset).toArray = ls at hl ⊢
  have hl : lv_has ls 2 [(0, .ref b), (1, .int (nI k))] := hl
  have hbA : ¬ (fun q : Nat => s.heap.size ≤ q) b := Nat.not_le.mpr hbl
  have hS : va_S (fun q : Nat => s.heap.size ≤ q) s.heap s.heap [] := va_S.rf
  refine lv_iload_n B.exec B.bytes dL_cell_0 rfl (lv_at hl 1 rfl) ?_
  refine lv_aload_n B.exec B.bytes dL_cell_1 rfl (lv_at hl 0 rfl) ?_
  refine va_slen B.exec B.bytes hX hbl hbA hS dL_cell_2 ?_
  refine lv_icmp_ge (tgt := 12) B.exec B.bytes dL_cell_3 (by decide) (fun c1 => ?_) (fun c1 => ?_)
  · have c1 : L ≤ k := (nI_leI (a := L) (b := k) (by omega) (by omega)).mp c1
    refine lv_iconst (v := 0) B.exec B.bytes dL_cell_12 (by decide) ?_
    refine W.iret B.exec B.bytes B.returns (fun t ht hW => ⟨⟨0, (), rfl, by unfold cel; rw [if_neg (by omega)], trivial⟩, by rw [ht]; exact Nat.le_refl _, fun q h1 h2 => by rw [ht]⟩) (fun q hq => absurd hq List.not_mem_nil) dL_cell_13 B.notSynchronized
  · have c1 : ¬ L ≤ k := fun z => c1 ((nI_leI (a := L) (b := k) (by omega) (by omega)).mpr z)
    refine lv_aload_n B.exec B.bytes dL_cell_6 rfl (lv_at hl 0 rfl) ?_
    refine lv_iload_n B.exec B.bytes dL_cell_7 rfl (lv_at hl 1 rfl) ?_
    refine va_sld B.exec B.bytes hX hbl hbA hS (vp_in_nI (by omega) (by omega)) dL_cell_8 ?_
    refine lv_goto (tgt := 13) B.exec B.bytes dL_cell_9 (by decide) ?_
    refine W.iret B.exec B.bytes B.returns (fun t ht hW => ⟨⟨_, (), rfl, by unfold cel; rw [if_pos (by omega), nI_clamp (by omega)], trivial⟩, by rw [ht]; exact Nat.le_refl _, fun q h1 h2 => by rw [ht]⟩) (fun q hq => absurd hq List.not_mem_nil) dL_cell_13 B.notSynchronized
