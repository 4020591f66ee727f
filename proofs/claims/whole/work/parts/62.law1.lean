/-! what the tables say of every class and array that is met -/
theorem law_known {s : State} {args : Array Value} (hts : ∀ w ∈ lw_tbl, w.before args s = true) : ∃ (dC : Nat → ClassId) (dI : Nat → Nat → Nat) (cI cZ cT : ClassId), va_K (dC, dI) vwCl (tyL cI cZ cT) s ∧ mN s := by
  have hL : ∀ w ∈ wsL, w.before args s = true := fun w hw => hts w (wsL_law_in w hw)
  obtain ⟨c0, i0, k0⟩ := u_known (C := RX0) (T := TX0) (N := 8) (n := 8) hts rin_wsX00 (hts (.instantiable RX0 8) (by decide +kernel))
  obtain ⟨c1, i1, k1⟩ := u_known (C := RX1) (T := TX1) (N := 9) (n := 9) hts rin_wsX10 (hts (.instantiable RX1 9) (by decide +kernel))
  obtain ⟨c2, i2, k2⟩ := u_known (C := RX3) (T := TX3) (N := 2) (n := 2) hts rin_wsX30 (hts (.instantiable RX3 2) (by decide +kernel))
  obtain ⟨c3, i3, k3⟩ := u_known (C := RX4) (T := TX4) (N := 1) (n := 1) hts rin_wsX40 (hts (.instantiable RX4 1) (by decide +kernel))
  obtain ⟨c4, i4, k4⟩ := u_known (C := RX5) (T := TX5) (N := 6) (n := 6) hts rin_wsX50 (hts (.instantiable RX5 6) (by decide +kernel))
  obtain ⟨c5, i5, k5⟩ := u_known (C := RX6) (T := TX6) (N := 8) (n := 8) hts rin_wsX60 (hts (.instantiable RX6 8) (by decide +kernel))
  obtain ⟨c6, i6, k6⟩ := u_known (C := RX7) (T := TX7) (N := 4) (n := 4) hts rin_wsX70 (hts (.instantiable RX7 4) (by decide +kernel))
  obtain ⟨c7, i7, k7⟩ := u_known (C := RX8) (T := TX8) (N := 1) (n := 1) hts rin_wsX80 (hts (.instantiable RX8 1) (by decide +kernel))
  obtain ⟨c8, i8, k8⟩ := u_known (C := RX9) (T := TX9) (N := 4) (n := 4) hts rin_wsX90 (hts (.instantiable RX9 4) (by decide +kernel))
  obtain ⟨c9, i9, k9⟩ := u_known (C := RX10) (T := TX10) (N := 20) (n := 20) hts rin_wsX100 (hts (.instantiable RX10 20) (by decide +kernel))
  obtain ⟨cI, kI, compI, f1, f2, f3⟩ := Cond.arrayClass_spec (hts (.arrayClass .int) (by decide +kernel))
  obtain ⟨cZ, kZ, compZ, g1, g2, g3⟩ := Cond.arrayClass_spec (hts (.arrayClass .boolean) (by decide +kernel))
  have hao : (Cond.arrayOver (.object RX6)).before args s = true := hts (.arrayOver (.object RX6)) (by decide +kernel)
  obtain ⟨compT, cT, kT, h1, h2, h3, h4, h5⟩ := Cond.arrayOver_spec hao
  refine ⟨fun k => match k with | 0 => c0 | 1 => c1 | 2 => c2 | 3 => c3 | 4 => c4 | 5 => c5 | 6 => c6 | 7 => c7 | 8 => c8 | _ => c9, fun k => match k with | 0 => i0 | 1 => i1 | 2 => i2 | 3 => i3 | 4 => i4 | 5 => i5 | 6 => i6 | 7 => i7 | 8 => i8 | _ => i9, cI, cZ, cT, ⟨?_, ?_⟩, ?_⟩
  · intro k q hq
    match k, hq with
    | 0, hq => cases hq; exact k0
    | 1, hq => cases hq; exact k1
    | 2, hq => cases hq; exact k2
    | 3, hq => cases hq; exact k3
    | 4, hq => cases hq; exact k4
    | 5, hq => cases hq; exact k5
    | 6, hq => cases hq; exact k6
    | 7, hq => cases hq; exact k7
    | 8, hq => cases hq; exact k8
    | 9, hq => cases hq; exact k9
    | k + 10, hq => simp [vwCl] at hq
  · intro k q hq
    match k, hq with
    | 0, hq => cases hq; exact ⟨fun n z => ⟨fun k h => (by cases h), kI, f2, compI, f3⟩, f1⟩
    | 1, hq => cases hq; exact ⟨fun n z => ⟨fun k h => (by cases h), kZ, g2, compZ, g3⟩, g1⟩
    | 2, hq => cases hq; exact ⟨fun n z => ⟨fun k h => (by cases h), kT, h3, compT, h4⟩, kT, compT, h3, h4, h1, h5⟩
    | k + 3, hq => simp [tyL] at hq
  · exact ⟨va_AO.of hao, va_Nw.of rfl (hts (.declares ⟨RX2, "take", "(I)I"⟩) (by decide +kernel)), va_Nw.of rfl (hts (.declares ⟨RX2, "clearRoomFor", "(I)V"⟩) (by decide +kernel)), va_Nw.of rfl (hts (.declares ⟨RX2, "gather", "()I"⟩) (by decide +kernel))⟩
