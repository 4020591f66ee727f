/-! BOTH SIDES: collect and minor -/
section ST
variable {l : Launch} {dC : Nat → ClassId} {dI : Nat → Nat → Nat} {cI cZ cT : ClassId} {b1 b2 t : Nat} {wC wR : mM}
theorem st_collect (hJ : JW cI cZ cT b1 b2 t wC wR) (hT : t ≤ 600) : Bth l (dC, dI) vwCl (tyL cI cZ cT) (JW cI cZ cT b1 b2 (t + 1)) isI (some .int) yX9_collect cX9_collect 1 0 0 yX10_collect cX10_collect 2 wC wR [.ref b1] [.ref b2] := by
  obtain ⟨q1, q2, kp, Wn, made, fl, num, rfs, root, own, tad, trm, tpl, wlk, ord, met, msz, cur, mend, pnx, pen, st, coll, mins, movd, thr, adr, rem, half, top, size, row, plc, old, rfl, rfl, hC, hR, hS, hw1, hw2, hw3⟩ := hJ
  have hrb : ∀ j, j < 16 → ∀ o, root j = some o → o < made := fun j hj o ho => (hS.rb j hj o ho).1
  have hfb : ∀ o, o < made → ∀ i, i < fl o → ∀ t, rfs o i = some t → t < made := fun o ho i _ t ht => hS.rfb o ho i t ht
  have hfl := hS.fl6
  have hW := hS.w400
  have hmd := hS.md
  have hk2 := hS.kp2
  obtain ⟨Kp, k1, k2, k3, k4⟩ := hS.kk
  have hBc := hS.hB k1
  have hBr : ∀ M : List Nat, M.Nodup → (∀ x ∈ M, Kp x) → M.length ≤ 400 := fun M h1 h2 => Nat.le_trans (hBc M h1 h2) hW
  have hkm : ∀ x, Kp x → x < made := fun x hx => (k1 x hx).1
  rcases (show kp = 0 ∨ kp = 1 ∨ kp = 2 by omega) with hkp | hkp | hkp
  · refine ⟨_, ⟨_, ⟨by decide, by decide⟩, ⟨rfl, rfl⟩, h_collect0 (Kp := Kp) hBc hkm k2 hfl hC hkp hW (by omega) hS.tb hw1 hw2 k3 hS.lyc⟩, fun v w2 hp => ⟨_, ⟨_, ⟨by decide, by decide⟩, ⟨rfl, rfl⟩, r_collect0 (Kp := Kp) hBr k1 k2 hR hmd hW hfl hS.lyd k3 hkp⟩, fun v2 w3 hp2 => ?_⟩⟩
    rw [hS.lr] at hp
    obtain ⟨mt3, ms3, wl3, od3, hv, hm, hLs⟩ := hp
    obtain ⟨sz2, rw2, pl2, hv2, hm2⟩ := hp2
    rw [hS.sw_own] at hm
    rw [hS.sw_cnt] at hv
    exact ⟨hv2.trans hv.symm, ⟨_, hv⟩, JW_i rfl rfl hm hm2 (hS.sweep false (Or.inr ⟨rfl, hkp⟩)) hLs.hw hLs.hm (by omega)⟩
  · have hst : st < 1000 := by
      obtain ⟨c1, c2, -⟩ := hS.c1 hkp
      have := Nat.mul_le_mul_right (Wn / 2) c1
      omega
    have hcap := hS.cap hkp
    refine ⟨_, ⟨_, ⟨by decide, by decide⟩, ⟨rfl, rfl⟩, h_collect1 (Kp := Kp) hBc hkm k2 hfl hC hkp hst hW (by omega) hS.tb hw1 hw2 k3 hS.ob (by rw [hS.lr]; exact hcap)⟩, fun v w2 hp => ⟨_, ⟨_, ⟨by decide, by decide⟩, ⟨rfl, rfl⟩, r_collect1 (Kp := Kp) hBr k1 k2 hR hmd hW hfl hS.lyd k3 hkp (hS.c1 hkp).1 hcap⟩, fun v2 w3 hp2 => ?_⟩⟩
    rw [hS.lr, hS.st2 hkp, hS.clr] at hp
    obtain ⟨mt3, ms3, wl3, od3, hv, hm, hLs⟩ := hp
    obtain ⟨sz2, rw2, pl2, hv2, hm2⟩ := hp2
    obtain ⟨e1, hS2⟩ := hS.copyAll hkp
    rw [e1] at hm2
    rw [hS.cp_cnt, pk_sub (by omega), Nat.add_sub_cancel] at hv
    exact ⟨hv2.trans hv.symm, ⟨_, hv⟩, JW_i rfl rfl hm hm2 hS2 hLs.hw hLs.hm (by omega)⟩
  · have hS' := hS.sweep true (Or.inl ⟨rfl, hkp⟩)
    refine ⟨_, ⟨_, ⟨by decide, by decide⟩, ⟨rfl, rfl⟩, h_collect2 (Kp := Kp) hBc hkm k2 hfl hC hkp hW (by omega) hS.tb hw1 hw2 k3 hS.ob (k4 hkp) hS.lyc (fun tp0 ow2 tp2 h => by rw [hS.lr, hS.sw_own2 hkp, hS'.ly hkp] at h ⊢; exact hS'.mn_le hkp h)⟩, fun v w2 hp => ⟨_, ⟨_, ⟨by decide, by decide⟩, ⟨rfl, rfl⟩, r_collect2 (Kp := Kp) hBr k1 k2 hR hmd hW hfl hS.lyd k3 hkp (hS.y hkp) (hS.yr hkp) tpl⟩, fun v2 w3 hp2 => ?_⟩⟩
    rw [hS.lr, hS.sw_own2 hkp, hS'.ly hkp, hS.sw_cnt2 hkp] at hp
    obtain ⟨mt3, ms3, wl3, od3, hLs, hp⟩ := hp
    obtain ⟨sz2, rw2, pl2, ol2, hp2⟩ := hp2
    rcases hp with ⟨hv, hno, n2, ow2, tp2, hn2, hla, hm⟩ | ⟨ow2, tp2, hla, hv, hm⟩
    · rw [gb_back (nodup_take hLs.1 n2) hla] at hm
      rcases hp2 with ⟨hv2, hno2, hm2⟩ | ⟨ow3, tp3, hv2, hRz, hnd, hm2⟩
      · exact ⟨hv2.trans hv.symm, ⟨_, hv⟩, JW_i rfl rfl hm hm2 hS' hLs.hw hLs.hm (by omega)⟩
      · rw [hRz.1] at hno; cases hno
    · rcases hp2 with ⟨hv2, hno2, hm2⟩ | ⟨ow3, tp3, hv2, hRz, hnd, hm2⟩
      · rw [hla] at hno2; cases hno2
      · obtain ⟨e1, e2, hS2⟩ := hS'.minor hkp hRz hla
        rw [e1] at hm2
        rw [e2] at hv2
        exact ⟨hv2.trans hv.symm, ⟨_, hv⟩, JW_i rfl rfl hm hm2 hS2 hLs.hw hLs.hm (by omega)⟩
theorem st_minor (hJ : JW cI cZ cT b1 b2 t wC wR) (hT : t ≤ 600) : Bth l (dC, dI) vwCl (tyL cI cZ cT) (JW cI cZ cT b1 b2 (t + 1)) isI (some .int) yX9_minor cX9_minor 1 0 0 yX10_minor cX10_minor 2 wC wR [.ref b1] [.ref b2] := by
  obtain ⟨q1, q2, kp, Wn, made, fl, num, rfs, root, own, tad, trm, tpl, wlk, ord, met, msz, cur, mend, pnx, pen, st, coll, mins, movd, thr, adr, rem, half, top, size, row, plc, old, rfl, rfl, hC, hR, hS, hw1, hw2, hw3⟩ := hJ
  have hrb : ∀ j, j < 16 → ∀ o, root j = some o → o < made := fun j hj o ho => (hS.rb j hj o ho).1
  have hfb : ∀ o, o < made → ∀ i, i < fl o → ∀ t, rfs o i = some t → t < made := fun o ho i _ t ht => hS.rfb o ho i t ht
  have hfl := hS.fl6
  have hW := hS.w400
  have hmd := hS.md
  have hk2 := hS.kp2
  obtain ⟨Kp, k1, k2, k3, k4⟩ := hS.kk
  have hBc := hS.hB k1
  have hBr : ∀ M : List Nat, M.Nodup → (∀ x ∈ M, Kp x) → M.length ≤ 400 := fun M h1 h2 => Nat.le_trans (hBc M h1 h2) hW
  have hkm : ∀ x, Kp x → x < made := fun x hx => (k1 x hx).1
  rcases (show kp = 0 ∨ kp = 1 ∨ kp = 2 by omega) with hkp | hkp | hkp
  · refine ⟨_, ⟨_, ⟨by decide, by decide⟩, ⟨rfl, rfl⟩, h_minor0 hC hkp⟩, fun v w2 hp => ⟨_, ⟨_, ⟨by decide, by decide⟩, ⟨rfl, rfl⟩, r_minor0 hR (by omega) (by omega)⟩, fun v2 w3 hp2 => ?_⟩⟩
    exact ⟨hp2.1.trans hp.1.symm, ⟨_, hp.1⟩, JW_i rfl rfl hp.2 hp2.2 hS hw1 hw2 (by omega)⟩
  · refine ⟨_, ⟨_, ⟨by decide, by decide⟩, ⟨rfl, rfl⟩, h_minor1 hC hkp⟩, fun v w2 hp => ⟨_, ⟨_, ⟨by decide, by decide⟩, ⟨rfl, rfl⟩, r_minor0 hR (by omega) (by omega)⟩, fun v2 w3 hp2 => ?_⟩⟩
    exact ⟨hp2.1.trans hp.1.symm, ⟨_, hp.1⟩, JW_i rfl rfl hp.2 hp2.2 hS hw1 hw2 (by omega)⟩
  · refine ⟨_, ⟨_, ⟨by decide, by decide⟩, ⟨rfl, rfl⟩, h_minor2 (Kp := Kp) hBc hkm k2 hfl hC hkp hW (by omega) hS.tb hw1 hw2 k3 hS.ob (k4 hkp) (fun ow2 tp2 h => by rw [hS.ly hkp] at h ⊢; exact hS.mn_le hkp h)⟩, fun v w2 hp => ⟨_, ⟨_, ⟨by decide, by decide⟩, ⟨rfl, rfl⟩, r_minor2 (Kp := Kp) hBr k1 k2 hR hmd hW hfl hS.lyd k3 hkp (hS.y hkp) (hS.yr hkp) (k4 hkp) tpl⟩, fun v2 w3 hp2 => ?_⟩⟩
    rw [hS.ly hkp] at hp
    obtain ⟨mt3, ms3, wl3, od3, hLs, hp⟩ := hp
    obtain ⟨sz2, rw2, pl2, ol2, hp2⟩ := hp2
    rcases hp with ⟨hv, hno, n2, ow2, tp2, hn2, hla, hm⟩ | ⟨ow2, tp2, hla, hv, hm⟩
    · rw [gb_back (nodup_take hLs.1 n2) hla] at hm
      rcases hp2 with ⟨hv2, hno2, hm2⟩ | ⟨ow3, tp3, hv2, hRz, hnd, hm2⟩
      · exact ⟨hv2.trans hv.symm, ⟨_, hv⟩, JW_i rfl rfl hm hm2 hS hLs.hw hLs.hm (by omega)⟩
      · rw [hRz.1] at hno; cases hno
    · rcases hp2 with ⟨hv2, hno2, hm2⟩ | ⟨ow3, tp3, hv2, hRz, hnd, hm2⟩
      · rw [hla] at hno2; cases hno2
      · obtain ⟨e1, e2, hS2⟩ := hS.minor hkp hRz hla
        rw [e1] at hm2
        rw [e2] at hv2
        exact ⟨hv2.trans hv.symm, ⟨_, hv⟩, JW_i rfl rfl hm hm2 hS2 hLs.hw hLs.hm (by omega)⟩
end ST
