/-! THE LAW: the two worlds at their start -/
theorem SI_0 {kp Wn pen : Nat} (hk : kp ≤ 2) (h1 : 16 ≤ Wn) (h2 : Wn ≤ 400) (p1 : kp = 1 → pen = Wn / 2) (p2 : kp = 2 → pen = Wn / 4) : SI kp Wn 0 (fun _ => 0) (fun _ _ => some 0) (fun _ => none) (fun _ => none) (fun _ => 0) (fun _ => false) 0 pen 0 (fun _ => some 0) (fun _ => false) 0 0 := by
  refine ⟨hk, h1, h2, by omega, fun x hx => by omega, fun k hk => by omega, ⟨fun o a ho => by omega, fun k o ho => absurd ho (by simp)⟩, fun o a ho => by omega, fun t ht => by omega, fun o a ho => by omega, fun _ _ => rfl, ⟨fun _ => False, fun x hx => hx.elim, fun x hx => hx.elim, fun i hi t ht => absurd ht (by simp), fun _ k t _ ht => absurd ht (by simp)⟩, fun h => ⟨by omega, by omega, rfl, by rw [p1 h]; omega, by omega, by omega, fun o a ho => by omega⟩, fun h => ⟨rfl, p2 h, by omega, fun o a ho => by omega, fun x a hx => by omega⟩⟩
def C0w (cI cT : ClassId) (b1 : Nat) (x y : Int32) (w : mM) : Prop := ∃ (q : Nat → Nat) (pen : Nat), q 0 = b1 ∧ CW cI cT q (Kof x) (Wof y) 0 (fun _ => 0) (fun _ _ => 0) (fun _ _ => some 0) (fun _ => none) (fun _ => none) (fun _ => 0) (fun _ => false) (fun _ => 0) (fun _ => 0) (fun _ => 0) (fun _ => none) 0 0 0 0 pen 0 0 0 0 w ∧ (Kof x = 1 → pen = Wof y / 2) ∧ (Kof x = 2 → pen = Wof y / 4)
theorem JW_0 {cI cZ cT : ClassId} {b1 b2 : Nat} {x y : Int32} {wC wR : mM} (h : C0w cI cT b1 x y wC) (hR : ∃ q : Nat → Nat, q 0 = b2 ∧ RW cI cZ q 0 (Kof x) (Wof y) 0 (fun _ => some 0) (fun _ => 0) (fun _ => false) (fun _ _ => 0) (fun _ _ => some 0) (fun _ => none) (fun _ => none) 0 0 0 0 0 0 (fun _ => 0) (fun _ => some 0) (fun _ => some 0) wR) : JW cI cZ cT b1 b2 0 wC wR := by
  obtain ⟨q1, pen, h1, hC, h3, h4⟩ := h
  obtain ⟨q2, h2, hR⟩ := hR
  have hw := Wof_b y
  exact JW_i h1 h2 hC hR (SI_0 (Kof_b x) hw.1 hw.2.1 h3 h4) (fun o ho => by omega) (fun k t ht => absurd ht (by simp)) (by omega)
theorem Kof_1 {x : Int32} (h : x = 1) : Kof x = 1 := by unfold Kof; rw [if_pos h]
theorem Kof_2 {x : Int32} (h : x = 2) : Kof x = 2 := by unfold Kof; rw [if_neg (by rw [h]; decide), if_pos h]
theorem Kof_n {x : Int32} (h : ¬ x = 1) (h2 : ¬ x = 2) : Kof x = 0 := by unfold Kof; rw [if_neg h, if_neg h2]
theorem cat_le (v : Option Value) : ((v.toList ++ []).map fun (z : Value) => z.category).sum ≤ 8 := by
  cases v with
  | none => exact Nat.zero_le _
  | some x => cases x <;> exact Nat.le_of_ble_eq_true rfl
theorem cal_L_cell : mCal yL_cell cL_cell 2 2 (some .int) := ⟨in_9, by decide +kernel⟩
section LC
variable {p : Program} {l : Launch} {e : Env} {s : State} {m : MethodId} {args : Array Value} {below : List Frame} {meth : Method} {c : Code} {H : Heap} {locs : List Loc} {cells slots : Nat} {Q : State → Prop} {pc : Nat} {ls : Array Slot} {rest : List Value} {D : va_G} {cl : List vw_C} {w wF : mM}
theorem law_cell {b L k : Nat} {xs : Nat → Int32} (hL : L ≤ 2050) (hk : k < 2) (S : CallFix p m c cL_law 4 s args wsL RL) (hX : va_X b L xs s s.heap) (hbl : b < s.heap.size) (hG : mG D cl (fun q => s.heap.size ≤ q) s.heap w H locs) (hF : mG D cl (fun q => s.heap.size ≤ q) s.heap wF H locs) (hsz : ls.size = 4) (hrest : (rest.map fun v => v.category).sum ≤ 8) (hf : cells ≤ room_1.cells ∧ slots ≤ room_1.slots) (hdg : decode cL_law pc = .ok (.invokestatic 9, 3))
    (kk : ∀ (H1 : Heap) (locs1 : List Loc), mG D cl (fun q => s.heap.size ≤ q) s.heap w H1 locs1 → mG D cl (fun q => s.heap.size ≤ q) s.heap wF H1 locs1 → W p l e room_1 s m args below meth c H1 locs1 cells slots Q (F0 m (pc + 3) ls (.int (cel L xs k) :: rest))) : W p l e room_1 s m args below meth c H locs cells slots Q (F0 m pc ls (.int (nI k) :: .ref b :: rest)) := by
  have hT : ∀ x ∈ wsS RL 9 yL_cell (wsY yL_cell cL_cell 2 (some .int)), x ∈ wsL := by
    intro x hx
    unfold wsS at hx
    rcases List.mem_append.mp hx with h | h
    · simp only [List.mem_cons, List.not_mem_nil, or_false] at h
      rcases h with h | h | h <;> subst h
      · exact in_6
      · exact in_7
      · exact in_8
    · rcases List.mem_cons.mp h with h | h
      · subst h; exact in_9
      · exact h
  have hbA : ¬ (fun q : Nat => s.heap.size ≤ q) b := Nat.not_le.mpr hbl
  have hS := hG.2.2.1
  refine va_calli (A0 := fun q => s.heap.size ≤ q) (va_runS (As := [.ref b, .int (nI k)]) (rest := rest) S (l_cell (xs := xs) (b := b) hL k hk) (cwS 2 S.2.2.2.2 (gL _ hT) rfl rfl rfl ⟨rfl, cal_L_cell.2⟩ ⟨by decide, by decide⟩) ⟨fun a U g mk q => ⟨q.1, va_X.moved (u := U) (U := U.calling g mk a) (Vm.Alike.refl U.vm) q.2.1, q.2.2⟩, fun U hU hW => ⟨rfl, ?_, ?_⟩⟩ rfl rfl hsz rfl (lv_room hrest) hdg hf) hS (fun q _ h => h.elim) (fun q h => h.elim) (fun r u t H1 locs1 ht hvm hw hB hz hk1 hS1 => ?_)
  · rw [hU]
    exact va_X.moved hW.alike (hX.kept (hS.2.1 b hbl hbA))
  · rw [hU]
    exact Nat.lt_of_lt_of_le hbl hS.1
  · rw [hw]
    exact kk H1 locs1 ⟨fun a e h => (hG.1 a e h).kept (hk1 a (hG.1.lt h) id), hG.2.1, hS1, hG.2.2.2⟩ ⟨fun a e h => (hF.1 a e h).kept (hk1 a (hF.1.lt h) id), hF.2.1, hS1, hF.2.2.2⟩
end LC
