/-! BOTH SIDES: make -/
theorem bad_no {x y : Int32} (h : inR 16 x = false ∨ inR 7 y = false) (h1 : inR 16 x = true) (h2 : inR 7 y = true) : False := by
  rcases h with z | z
  · rw [h1] at z; cases z
  · rw [h2] at z; cases z
theorem wl_new {made cur : Nat} {wlk : Nat → Nat} (h : ∀ o, o < made → wlk o ≤ cur) : ∀ o, o < made + 1 → va_up wlk made 0 o ≤ cur := fun o ho => by
  unfold va_up
  split
  · exact Nat.zero_le _
  · exact h o (by omega)
theorem mt_new {made : Nat} {met : Nat → Option Nat} (h : ∀ k t, met k = some t → t < made) : ∀ k t, met k = some t → t < made + 1 := fun k t ht => by
  have := h k t ht
  omega
theorem SI.free1 {kp Wn made : Nat} {fl : Nat → Nat} {rfs : Nat → Nat → Option Nat} {root own : Nat → Option Nat} {tad : Nat → Nat} {trm : Nat → Bool} {pnx pen st : Nat} {adr : Nat → Option Nat} {rem : Nat → Bool} {half top : Nat} (h : SI kp Wn made fl rfs root own tad trm pnx pen st adr rem half top) (hk : kp = 1) : ∀ k, top ≤ k → own k = none := fun k hk2 => by
  cases ho : own k with
  | none => rfl
  | some t =>
    obtain ⟨g1, a, g2, g3, g4⟩ := h.lyd.2 k t ho
    obtain ⟨-, -, -, -, -, -, c7⟩ := h.c1 hk
    have := (c7 t a g1 g2).2
    omega
theorem SI.free2 {kp Wn made : Nat} {fl : Nat → Nat} {rfs : Nat → Nat → Option Nat} {root own : Nat → Option Nat} {tad : Nat → Nat} {trm : Nat → Bool} {pnx pen st : Nat} {adr : Nat → Option Nat} {rem : Nat → Bool} {half top : Nat} (h : SI kp Wn made fl rfs root own tad trm pnx pen st adr rem half top) (hk : kp = 2) : ∀ k, top ≤ k → k < Wn / 4 → own k = none := fun k hk2 hk3 => by
  cases ho : own k with
  | none => rfl
  | some t =>
    obtain ⟨g1, a, g2, g3, g4⟩ := h.lyd.2 k t ho
    obtain ⟨-, -, -, c4, -⟩ := h.c2 hk
    have := (c4 t a g1 g2 (by omega)).1
    omega
section ST
variable {l : Launch} {dC : Nat → ClassId} {dI : Nat → Nat → Nat} {cI cZ cT : ClassId} {b1 b2 t : Nat} {wC wR : mM}
theorem st_make (hJ : JW cI cZ cT b1 b2 t wC wR) (hT : t ≤ 600) (x y : Int32) : Bth l (dC, dI) vwCl (tyL cI cZ cT) (JW cI cZ cT b1 b2 (t + 1)) isI (some .int) yX9_make cX9_make 5 3 20 yX10_make cX10_make 7 wC wR [.ref b1, .int x, .int y] [.ref b2, .int x, .int y] := by
  obtain ⟨q1, q2, kp, Wn, made, fl, num, rfs, root, own, tad, trm, tpl, wlk, ord, met, msz, cur, mend, pnx, pen, st, coll, mins, movd, thr, adr, rem, half, top, size, row, plc, old, rfl, rfl, hC, hR, hS, hw1, hw2, hw3⟩ := hJ
  have hrb : ∀ j, j < 16 → ∀ o, root j = some o → o < made := fun j hj o ho => (hS.rb j hj o ho).1
  have hfb : ∀ o, o < made → ∀ i, i < fl o → ∀ t, rfs o i = some t → t < made := fun o ho i _ t ht => hS.rfb o ho i t ht
  have hfl := hS.fl6
  have hW := hS.w400
  have hmd := hS.md
  have hk2 := hS.kp2
  obtain ⟨Kp, k1, k2, k3, k4⟩ := hS.kk
  have hBc := hS.hB k1
  have hBr : ∀ M : List Nat, M.Nodup → (∀ x ∈ M, Kp x) → M.length ≤ 400 := fun M h1 h2 => Nat.le_trans (hBc M h1 h2) hW
  have hkm : ∀ x, Kp x → x < made := fun x hx => (k1 x hx).1
  have hfb2 : ∀ k, k < made → ∀ j t, rfs k j = some t → t < made := hS.rfb
  rcases (show kp = 0 ∨ kp = 1 ∨ kp = 2 by omega) with hkp | hkp | hkp
  · have hS' := hS.sweep false (Or.inr ⟨rfl, hkp⟩)
    refine ⟨_, ⟨_, ⟨by decide, by decide⟩, ⟨rfl, rfl⟩, h_make0 (Kp := Kp) hBc hkm k2 hfl hC hmd hkp hW hS.ob hrb hw2 hfb2 (by omega) hS.tb hw1 k3 hS.lyc x y⟩, fun v w2 hp => ⟨_, ⟨_, ⟨by decide, by decide⟩, ⟨rfl, rfl⟩, r_make0 (Kp := Kp) hBr k1 k2 hR hmd hW hfl hS.lyd k3 hkp x y⟩, fun v2 w3 hp2 => ?_⟩⟩
    rw [hS.lr, hS.sw_own] at hp
    rcases hp with ⟨hbad, hv, hm⟩ | ⟨hin, hfull, hv, hm⟩ | ⟨j, n, hj, hn, hx, hy, hmk, hp⟩
    · rcases hp2 with ⟨hbad2, hv2, hm2⟩ | ⟨hin2, hfull2, hv2, hm2⟩ | ⟨j2, n2, hj2, hn2, hx2, hy2, hmk2, hp2⟩
      · exact ⟨hv2.trans hv.symm, ⟨_, hv⟩, JW_i rfl rfl hm hm2 hS hw1 hw2 (by omega)⟩
      · exact (bad_no hbad hin2.1 hin2.2).elim
      · exact (bad_no hbad (by rw [hx2]; exact inR_nI hj2 (by decide)) (by rw [hy2]; exact inR_nI (by omega) (by decide))).elim
    · rcases hp2 with ⟨hbad2, hv2, hm2⟩ | ⟨hin2, hfull2, hv2, hm2⟩ | ⟨j2, n2, hj2, hn2, hx2, hy2, hmk2, hp2⟩
      · exact (bad_no hbad2 hin.1 hin.2).elim
      · exact ⟨hv2.trans hv.symm, ⟨_, hv⟩, JW_i rfl rfl hm hm2 hS hw1 hw2 (by omega)⟩
      · omega
    · rcases hp2 with ⟨hbad2, hv2, hm2⟩ | ⟨hin2, hfull2, hv2, hm2⟩ | ⟨j2, n2, hj2, hn2, hx2, hy2, hmk2, hp2⟩
      · exact (bad_no hbad2 (by rw [hx]; exact inR_nI hj (by decide)) (by rw [hy]; exact inR_nI (by omega) (by decide))).elim
      · omega
      · have ej := (nI_eq (a := j) (b := j2) (by omega) (by omega)).mp (hx.symm.trans hx2)
        have en := (nI_eq (a := n) (b := n2) (by omega) (by omega)).mp (hy.symm.trans hy2)
        subst ej
        subst en
        rcases hp with ⟨a, hf, hv, b, a1, a2, hm⟩ | ⟨hf, mt3, ms3, wl3, od3, hLs, hp⟩
        · rcases hp2 with ⟨a', hf', hv2, hm2⟩ | ⟨hf', z⟩
          · rw [hf] at hf'
            cases hf'
            have hok := fit_ok (by omega) hf
            exact ⟨hv2.trans hv.symm, ⟨_, hv⟩, JW_i (extq_o (by omega)) rfl hm hm2 (hS.make hn hmk (by omega) (fun k g1 g2 => hok.2.2 k g1 g2) (fun z => absurd hkp z)) (wl_new hw1) (mt_new hw2) (by omega)⟩
          · rw [hf] at hf'; cases hf'
        · rcases hp2 with ⟨a', hf', z⟩ | ⟨hf', sz2, rw2, pl2, hp2⟩
          · rw [hf] at hf'; cases hf'
          · rcases hp with ⟨a, hg, hv, b, a1, a2, hm⟩ | ⟨hg, hv, hm⟩
            · rcases hp2 with ⟨a', hg', hv2, hm2⟩ | ⟨hg', z⟩
              · rw [hg] at hg'
                cases hg'
                have hok := fit_ok (by omega) hg
                exact ⟨hv2.trans hv.symm, ⟨_, hv⟩, JW_i (extq_o (by omega)) rfl hm hm2 (hS'.make hn hmk (by omega) (fun k g1 g2 => hok.2.2 k g1 g2) (fun z => absurd hkp z)) (wl_new hLs.hw) (mt_new hLs.hm) (by omega)⟩
              · rw [hg] at hg'; cases hg'
            · rcases hp2 with ⟨a', hg', z⟩ | ⟨hg', hv2, hm2⟩
              · rw [hg] at hg'; cases hg'
              · exact ⟨hv2.trans hv.symm, ⟨_, hv⟩, JW_i rfl rfl hm hm2 hS' hLs.hw hLs.hm (by omega)⟩
  · have hcap := hS.cap hkp
    obtain ⟨d1, d2, d3, d4, d5, d6, d7⟩ := hS.c1 hkp
    have hh1 := Nat.mul_le_mul_right (Wn / 2) d1
    have hh2 : (half + 1) * (Wn / 2) ≤ 2 * (Wn / 2) := Nat.mul_le_mul_right _ (by omega)
    refine ⟨_, ⟨_, ⟨by decide, by decide⟩, ⟨rfl, rfl⟩, h_make1 (Kp := Kp) hBc hkm k2 hfl hC hmd hkp hW hS.ob hrb hw2 hfb2 (by omega) hS.tb hw1 k3 (by omega) (by omega) (by omega) (by rw [hS.lr]; exact hcap) x y⟩, fun v w2 hp => ⟨_, ⟨_, ⟨by decide, by decide⟩, ⟨rfl, rfl⟩, r_make1 (Kp := Kp) hBr k1 k2 hR hmd hW hfl hS.lyd k3 hkp d1 (by omega) hcap x y⟩, fun v2 w3 hp2 => ?_⟩⟩
    rw [hS.lr, hS.st2 hkp, hS.clr] at hp
    obtain ⟨e1, hS2⟩ := hS.copyAll hkp
    rw [e1] at hp2
    have f1 := plR_1 fl (LRR fl rfs root) ((1 - half) * (Wn / 2), swA (blw made (ded false kp Wn adr (LRR fl rfs root))) adr, fun _ => none)
    have f2 := plC_1 fl (LRR fl rfs root) ((1 - half) * (Wn / 2), tad, fun _ => none)
    dsimp only at f1 f2
    have e0 := f1.trans f2.symm
    rw [e0] at hp2 hS2
    have hfr := hS2.free1 hkp
    have hh3 : (1 - half + 1) * (Wn / 2) = (1 - half) * (Wn / 2) + Wn / 2 := by rw [Nat.add_mul, Nat.one_mul]
    have hh4 : (1 - half) * (Wn / 2) ≤ 1 * (Wn / 2) := Nat.mul_le_mul_right _ (by omega)
    rw [hh3] at hp2
    rcases hp with ⟨hbad, hv, hm⟩ | ⟨hin, hfull, hv, hm⟩ | ⟨j, n, hj, hn, hx, hy, hmk, hp⟩
    · rcases hp2 with ⟨hbad2, hv2, hm2⟩ | ⟨hin2, hfull2, hv2, hm2⟩ | ⟨j2, n2, hj2, hn2, hx2, hy2, hmk2, hp2⟩
      · exact ⟨hv2.trans hv.symm, ⟨_, hv⟩, JW_i rfl rfl hm hm2 hS hw1 hw2 (by omega)⟩
      · exact (bad_no hbad hin2.1 hin2.2).elim
      · exact (bad_no hbad (by rw [hx2]; exact inR_nI hj2 (by decide)) (by rw [hy2]; exact inR_nI (by omega) (by decide))).elim
    · rcases hp2 with ⟨hbad2, hv2, hm2⟩ | ⟨hin2, hfull2, hv2, hm2⟩ | ⟨j2, n2, hj2, hn2, hx2, hy2, hmk2, hp2⟩
      · exact (bad_no hbad2 hin.1 hin.2).elim
      · exact ⟨hv2.trans hv.symm, ⟨_, hv⟩, JW_i rfl rfl hm hm2 hS hw1 hw2 (by omega)⟩
      · omega
    · rcases hp2 with ⟨hbad2, hv2, hm2⟩ | ⟨hin2, hfull2, hv2, hm2⟩ | ⟨j2, n2, hj2, hn2, hx2, hy2, hmk2, hp2⟩
      · exact (bad_no hbad2 (by rw [hx]; exact inR_nI hj (by decide)) (by rw [hy]; exact inR_nI (by omega) (by decide))).elim
      · omega
      · have ej := (nI_eq (a := j) (b := j2) (by omega) (by omega)).mp (hx.symm.trans hx2)
        have en := (nI_eq (a := n) (b := n2) (by omega) (by omega)).mp (hy.symm.trans hy2)
        subst ej
        subst en
        rcases hp with ⟨hf, hv, b, a1, a2, hm⟩ | ⟨hf, mt3, ms3, wl3, od3, hLs, hp⟩
        · rcases hp2 with ⟨hf', hv2, hm2⟩ | ⟨hf', z⟩
          · rw [d3] at hm
            have hfr0 := hS.free1 hkp
            exact ⟨hv2.trans hv.symm, ⟨_, hv⟩, JW_i (extq_o (by omega)) rfl hm hm2 (hS.make hn hmk (by omega) (fun k g1 g2 => hfr0 k g1) (fun z => ⟨rfl, by omega, rfl, rfl⟩)) (wl_new hw1) (mt_new hw2) (by omega)⟩
          · exact absurd (by rw [← d3, ← d4]; exact hf) hf'
        · rcases hp2 with ⟨hf', z⟩ | ⟨hf', sz2, rw2, pl2, hp2⟩
          · exact absurd (by rw [d3, d4]; exact hf') hf
          · rcases hp with ⟨hg, hv, b, a1, a2, hm⟩ | ⟨hg, hv, hm⟩
            · rcases hp2 with ⟨hg', hv2, hm2⟩ | ⟨hg', z⟩
              · exact ⟨hv2.trans hv.symm, ⟨_, hv⟩, JW_i (extq_o (by omega)) rfl hm hm2 (hS2.make hn hmk (by omega) (fun k g1 g2 => hfr k g1) (fun z => ⟨rfl, hg, rfl, rfl⟩)) (wl_new hLs.hw) (mt_new hLs.hm) (by omega)⟩
              · exact absurd hg hg'
            · rcases hp2 with ⟨hg', z⟩ | ⟨hg', hv2, hm2⟩
              · exact absurd hg' hg
              · exact ⟨hv2.trans hv.symm, ⟨_, hv⟩, JW_i rfl rfl hm hm2 hS2 hLs.hw hLs.hm (by omega)⟩
  · have hS' := hS.sweep true (Or.inl ⟨rfl, hkp⟩)
    obtain ⟨d1, d2, d3, d4, d5⟩ := hS.c2 hkp
    refine ⟨_, ⟨_, ⟨by decide, by decide⟩, ⟨rfl, rfl⟩, h_make2 (Kp := Kp) hBc hkm k2 hfl hC hmd hkp hW hS.ob hrb hw2 hfb2 (by omega) hS.tb hw1 k3 (k4 hkp) hS.lyc (fun ow2 tp2 h => by rw [hS.ly hkp] at h ⊢; exact hS.mn_le hkp h) (fun tp0 ow2 tp2 h => by rw [hS.lr, hS.sw_own2 hkp, hS'.ly hkp] at h ⊢; exact hS'.mn_le hkp h) (by omega) d2 x y⟩, fun v w2 hp => ⟨_, ⟨_, ⟨by decide, by decide⟩, ⟨rfl, rfl⟩, r_make2 (Kp := Kp) hBr k1 k2 hR hmd hW hfl hS.lyd k3 hkp (hS.y hkp) (hS.yr hkp) (k4 hkp) (by omega) tpl x y⟩, fun v2 w3 hp2 => ?_⟩⟩
    rw [hS.lr, hS.sw_own2 hkp, hS'.ly hkp, hS.ly hkp] at hp
    rcases hp with ⟨hbad, hv, hm⟩ | ⟨hin, hfull, hv, hm⟩ | ⟨j, n, hj, hn, hx, hy, hmk, hp⟩
    · rcases hp2 with ⟨hbad2, hv2, hm2⟩ | ⟨hin2, hfull2, hv2, hm2⟩ | ⟨j2, n2, hj2, hn2, hx2, hy2, hmk2, hp2⟩
      · exact ⟨hv2.trans hv.symm, ⟨_, hv⟩, JW_i rfl rfl hm hm2 hS hw1 hw2 (by omega)⟩
      · exact (bad_no hbad hin2.1 hin2.2).elim
      · exact (bad_no hbad (by rw [hx2]; exact inR_nI hj2 (by decide)) (by rw [hy2]; exact inR_nI (by omega) (by decide))).elim
    · rcases hp2 with ⟨hbad2, hv2, hm2⟩ | ⟨hin2, hfull2, hv2, hm2⟩ | ⟨j2, n2, hj2, hn2, hx2, hy2, hmk2, hp2⟩
      · exact (bad_no hbad2 hin.1 hin.2).elim
      · exact ⟨hv2.trans hv.symm, ⟨_, hv⟩, JW_i rfl rfl hm hm2 hS hw1 hw2 (by omega)⟩
      · omega
    · rcases hp2 with ⟨hbad2, hv2, hm2⟩ | ⟨hin2, hfull2, hv2, hm2⟩ | ⟨j2, n2, hj2, hn2, hx2, hy2, hmk2, hp2⟩
      · exact (bad_no hbad2 (by rw [hx]; exact inR_nI hj (by decide)) (by rw [hy]; exact inR_nI (by omega) (by decide))).elim
      · omega
      · have ej := (nI_eq (a := j) (b := j2) (by omega) (by omega)).mp (hx.symm.trans hx2)
        have en := (nI_eq (a := n) (b := n2) (by omega) (by omega)).mp (hy.symm.trans hy2)
        subst ej
        subst en
        rcases hp with ⟨hf, hv, b, a1, a2, hm⟩ | ⟨hf, hbig, hv, hm⟩ | ⟨hf, hsm, mt3, ms3, wl3, od3, hLs, ow2, tp2, hla, hv, b, a1, a2, hm⟩ | ⟨hf, hsm, hno, tp9, mt3, ms3, wl3, od3, hLs, hp⟩
        · rcases hp2 with ⟨hf', hv2, hm2⟩ | ⟨hf', z⟩ | ⟨hf', z⟩ | ⟨hf', z⟩
          · rw [d1] at hm
            have hfr0 := hS.free2 hkp
            exact ⟨hv2.trans hv.symm, ⟨_, hv⟩, JW_i (extq_o (by omega)) rfl hm hm2 (hS.make hn hmk (by omega) (fun k g1 g2 => hfr0 k g1 (by omega)) (fun z => ⟨rfl, by omega, rfl, rfl⟩)) (wl_new hw1) (mt_new hw2) (by omega)⟩
          · omega
          · omega
          · omega
        · rcases hp2 with ⟨hf', z⟩ | ⟨hf', hbig', hv2, hm2⟩ | ⟨hf', hsm', z⟩ | ⟨hf', hsm', z⟩
          · omega
          · exact ⟨hv2.trans hv.symm, ⟨_, hv⟩, JW_i rfl rfl hm hm2 hS hw1 hw2 (by omega)⟩
          · omega
          · omega
        · rcases hp2 with ⟨hf', z⟩ | ⟨hf', hbig', z⟩ | ⟨hf', hsm', sz2, rw2, pl2, ol2, ow3, tp3, hRz, hnd, hv2, hm2⟩ | ⟨hf', hsm', hno', z⟩
          · omega
          · omega
          · obtain ⟨e1, e2, hS2⟩ := hS.minor hkp hRz hla
            rw [e1] at hm2
            have hfr := hS2.free2 hkp
            exact ⟨hv2.trans hv.symm, ⟨_, hv⟩, JW_i (extq_o (by omega)) rfl hm hm2 (hS2.make hn hmk (by omega) (fun k g1 g2 => hfr k g1 (by omega)) (fun z => ⟨rfl, by omega, by omega, rfl⟩)) (wl_new hLs.hw) (mt_new hLs.hm) (by omega)⟩
          · rw [hla] at hno'; cases hno'
        · rcases hp2 with ⟨hf', z⟩ | ⟨hf', hbig', z⟩ | ⟨hf', hsm', sz2, rw2, pl2, ol2, ow3, tp3, hRz, z⟩ | ⟨hf', hsm', hno', sz2, rw2, pl2, ol2, hp2⟩
          · omega
          · omega
          · rw [hRz.1] at hno; cases hno
          · rcases hp with ⟨hno2, hv, tp2, hm⟩ | ⟨ow2, tp2, hla, hv, b, a1, a2, hm⟩
            · rcases hp2 with ⟨hno3, hv2, hm2⟩ | ⟨ow3, tp3, hRz, hnd, hv2, hm2⟩
              · exact ⟨hv2.trans hv.symm, ⟨_, hv⟩, JW_i rfl rfl hm hm2 hS' hLs.hw hLs.hm (by omega)⟩
              · have hz := hRz.1
                rw [lay_tpn hno2] at hz
                cases hz
            · rcases hp2 with ⟨hno3, hv2, hm2⟩ | ⟨ow3, tp3, hRz, hnd, hv2, hm2⟩
              · rw [lay_tpn hno3] at hla; cases hla
              · obtain ⟨e1, e2, hS2⟩ := hS'.minor hkp hRz hla
                rw [e1] at hm2
                have hfr := hS2.free2 hkp
                exact ⟨hv2.trans hv.symm, ⟨_, hv⟩, JW_i (extq_o (by omega)) rfl hm hm2 (hS2.make hn hmk (by omega) (fun k g1 g2 => hfr k g1 (by omega)) (fun z => ⟨rfl, by omega, by omega, rfl⟩)) (wl_new hLs.hw) (mt_new hLs.hm) (by omega)⟩
end ST
