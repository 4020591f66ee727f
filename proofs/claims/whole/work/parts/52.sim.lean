/-! walks are the same on both sides -/
theorem mtL_congr {ok ok2 : Nat → Bool} {L : List Nat} {o : Option Nat} (h : ∀ k, o = some k → ok k = ok2 k) : mtL ok L o = mtL ok2 L o := by
  cases o with
  | none => rfl
  | some k =>
    unfold mtL
    simp only [h k rfl]
theorem mtN_congr {ok ok2 : Nat → Bool} {f : Nat → Option Nat} {L : List Nat} : ∀ n, (∀ i, i < n → ∀ k, f i = some k → ok k = ok2 k) → mtN ok f n L = mtN ok2 f n L
  | 0, _ => rfl
  | n + 1, h => by
    show mtL ok (mtN ok f n L) (f n) = mtL ok2 (mtN ok2 f n L) (f n)
    rw [mtN_congr n (fun i hi => h i (by omega)), mtL_congr (h n (by omega))]
theorem flw_congr {ok ok2 : Nat → Bool} {fl : Nat → Nat} {rfs : Nat → Nat → Option Nat} {Kp : Nat → Prop} (hok : ∀ x, Kp x → ok x = ok2 x) (hKf : ∀ x, Kp x → ∀ i, i < fl x → ∀ t, rfs x i = some t → Kp t) : ∀ (n i : Nat) (L : List Nat), (∀ x ∈ L, Kp x) → flw ok fl rfs n i L = flw ok2 fl rfs n i L
  | 0, _, _, _ => rfl
  | n + 1, i, L, h => by
    by_cases hi : i < L.length
    · have hx := h _ (getD_mem hi)
      rw [flw_step hi, flw_step hi, mtN_congr _ (fun j hj k hk => hok k (hKf _ hx j hj k hk))]
      exact flw_congr hok hKf n (i + 1) _ (mtN_all h _ (fun j hj k hk _ => hKf _ hx j hj k hk))
    · rw [flw_end (by omega), flw_end (by omega)]
theorem rmb_congr {ok ok2 : Nat → Bool} {fl : Nat → Nat} {rfs : Nat → Nat → Option Nat} {own : Nat → Option Nat} {tad tad2 : Nat → Nat} {trm trm2 : Nat → Bool} {f : Nat} {L : List Nat} {Kp : Nat → Prop} (hok : ∀ x, Kp x → ok x = ok2 x) (hKf : ∀ x, Kp x → ∀ i, i < fl x → ∀ t, rfs x i = some t → Kp t) (hb : ∀ k, f ≤ k → bgn own tad k = bgn own tad2 k) (ht : ∀ k t, f ≤ k → bgn own tad2 k = some t → trm t = trm2 t ∧ Kp t) : ∀ n, rmb ok fl rfs own tad trm f n L = rmb ok2 fl rfs own tad2 trm2 f n L
  | 0 => rfl
  | n + 1 => by
    have ih := rmb_congr (L := L) hok hKf hb ht n
    have e := hb (f + n) (by omega)
    cases h : bgn own tad2 (f + n) with
    | none => rw [rmb_n (e.trans h), rmb_n h, ih]
    | some t =>
      obtain ⟨h1, h2⟩ := ht (f + n) t (by omega) h
      cases hr : trm2 t with
      | false => rw [rmb_f (e.trans h) (h1.trans hr), rmb_f h hr, ih]
      | true => rw [rmb_t (e.trans h) (h1.trans hr), rmb_t h hr, ih, mtN_congr _ (fun j hj k hk => hok k (hKf _ h2 j hj k hk))]
theorem mtL_hasG {ok : Nat → Bool} {L : List Nat} {o : Option Nat} {t : Nat} (h : o = some t) (hok : ok t = true) : t ∈ mtL ok L o := by
  subst h
  by_cases hin : t ∈ L
  · exact mtL_sub hin
  · rw [mtL_yes hok hin]; exact mem_snoc.mpr (Or.inr rfl)
theorem mtN_hasG {ok : Nat → Bool} {f : Nat → Option Nat} {L : List Nat} : ∀ (n i t : Nat), i < n → f i = some t → ok t = true → t ∈ mtN ok f n L
  | 0, _, _, h, _, _ => absurd h (Nat.not_lt_zero _)
  | n + 1, i, t, h, h2, h3 => by
    show t ∈ mtL ok (mtN ok f n L) (f n)
    by_cases e : i = n
    · rw [e] at h2
      exact mtL_hasG h2 h3
    · exact mtL_sub (mtN_hasG n i t (by omega) h2 h3)
theorem flw_closedG {ok : Nat → Bool} {fl : Nat → Nat} {rfs : Nat → Nat → Option Nat} : ∀ (n i : Nat) (L : List Nat), (∀ j, j < i → j < L.length → ∀ f, f < fl (L.getD j 0) → ∀ t, rfs (L.getD j 0) f = some t → ok t = true → t ∈ L) → (flw ok fl rfs n i L).length ≤ i + n → ∀ x ∈ flw ok fl rfs n i L, ∀ f, f < fl x → ∀ t, rfs x f = some t → ok t = true → t ∈ flw ok fl rfs n i L
  | 0, i, L, h, hl, x, hx, f, hf, t, ht, hok => by
    change L.length ≤ i at hl
    change x ∈ L at hx
    obtain ⟨j, hj⟩ := List.getElem?_of_mem hx
    have hj2 := (List.getElem?_eq_some_iff.mp hj).1
    have e : L.getD j 0 = x := by
      have := getD_some hj2
      rw [hj] at this
      cases this
      rfl
    exact h j (by omega) hj2 f (by rw [e]; exact hf) t (by rw [e]; exact ht) hok
  | n + 1, i, L, h, hl, x, hx, f, hf, t, ht, hok => by
    by_cases hi : i < L.length
    · rw [flw_step hi] at hl hx ⊢
      obtain ⟨M, hM⟩ := mtN_pre ok (rfs (L.getD i 0)) (fl (L.getD i 0)) L
      refine flw_closedG n (i + 1) _ (fun j hj hj2 f hf t ht hok => ?_) (by omega) x hx f hf t ht hok
      have hjL : j < L.length := by omega
      have e : (mtN ok (rfs (L.getD i 0)) (fl (L.getD i 0)) L).getD j 0 = L.getD j 0 := by rw [hM]; exact getD_pre hjL
      rw [e] at hf ht
      by_cases hji : j = i
      · subst hji
        exact mtN_hasG _ f t hf ht hok
      · rw [hM]
        exact List.mem_append_left _ (h j (by omega) hjL f hf t ht hok)
    · rw [flw_end (by omega)] at hl hx ⊢
      obtain ⟨j, hj⟩ := List.getElem?_of_mem hx
      have hj2 := (List.getElem?_eq_some_iff.mp hj).1
      have e : L.getD j 0 = x := by
        have := getD_some hj2
        rw [hj] at this
        cases this
        rfl
      exact h j (by omega) hj2 f (by rw [e]; exact hf) t (by rw [e]; exact ht) hok
theorem rmb_has {ok : Nat → Bool} {fl : Nat → Nat} {rfs : Nat → Nat → Option Nat} {own : Nat → Option Nat} {tad : Nat → Nat} {trm : Nat → Bool} {f k x : Nat} {L : List Nat} (hb : bgn own tad (f + k) = some x) (hx : trm x = true) {i t : Nat} (hi : i < fl x) (ht : rfs x i = some t) (hok : ok t = true) {n : Nat} (hk : k < n) : t ∈ rmb ok fl rfs own tad trm f n L := by
  obtain ⟨M, hM⟩ := rmb_ext ok fl rfs own tad trm f (k + 1) (n - (k + 1)) L
  rw [show k + 1 + (n - (k + 1)) = n by omega] at hM
  rw [hM]
  refine List.mem_append_left _ ?_
  rw [rmb_t hb hx]
  exact mtN_hasG _ i t hi ht hok
theorem LYR_nd {kp Wn : Nat} {fl : Nat → Nat} {rfs : Nat → Nat → Option Nat} {root adr own : Nat → Option Nat} {rem : Nat → Bool} : (LYR kp Wn fl rfs root adr own rem).Nodup := by
  refine flw_nd _ _ _ ?_
  have : ∀ n, (rmb (okR kp Wn adr) fl rfs own (tda adr) rem (Wn / 4) n (mtN (okR kp Wn adr) root 16 [])).Nodup := fun n => by
    induction n with
    | zero => exact mtN_nd List.nodup_nil _
    | succ n ih =>
      cases hb : bgn own (tda adr) (Wn / 4 + n) with
      | none => rw [rmb_n hb]; exact ih
      | some t =>
        cases hr : rem t with
        | false => rw [rmb_f hb hr]; exact ih
        | true => rw [rmb_t hb hr]; exact mtN_nd ih _
  exact this _
section SIL
variable {kp Wn made : Nat} {fl : Nat → Nat} {rfs : Nat → Nat → Option Nat} {root own : Nat → Option Nat} {tad : Nat → Nat} {trm : Nat → Bool} {pnx pen st : Nat} {adr : Nat → Option Nat} {rem : Nat → Bool} {half top : Nat}
theorem SI.okW (h : SI kp Wn made fl rfs root own tad trm pnx pen st adr rem half top) {x a : Nat} (hx : x < made) (ha : adr x = some a) : okC tad Wn x = allOk x := by
  have := (h.lyd.1 x a hx ha).1
  unfold okC allOk
  rw [h.ta x a hx ha]
  exact decide_eq_true (by omega)
theorem SI.okY (h : SI kp Wn made fl rfs root own tad trm pnx pen st adr rem half top) (hk : kp = 2) {x a : Nat} (hx : x < made) (ha : adr x = some a) : okC tad (Wn / 4) x = okR kp Wn adr x := by
  unfold okC okR
  rw [h.ta x a hx ha]
  by_cases z : a < Wn / 4
  · rw [isOld_y ha z, decide_eq_true z]; rfl
  · rw [isOld_o hk ha z, decide_eq_false z]; rfl
theorem SI.lr (h : SI kp Wn made fl rfs root own tad trm pnx pen st adr rem half top) : flw (okC tad Wn) fl rfs 401 0 (mtN (okC tad Wn) root 16 []) = LRR fl rfs root := by
  obtain ⟨Kp, h1, h2, h3, h4⟩ := h.kk
  have hok : ∀ x, Kp x → okC tad Wn x = allOk x := fun x hx => by
    obtain ⟨g1, a, g2⟩ := h1 x hx
    exact h.okW g1 g2
  unfold LRR
  rw [mtN_congr 16 (fun i hi k hk => hok k (h3 i hi k hk))]
  exact flw_congr hok h2 _ _ _ (mtN_all (fun x hx => absurd hx List.not_mem_nil) _ (fun i hi k hk _ => h3 i hi k hk))
theorem SI.ls (h : SI kp Wn made fl rfs root own tad trm pnx pen st adr rem half top) {j k : Nat} (hj : j < 16) (hr : root j = some k) : flw (okC tad Wn) fl rfs 401 0 (mtL (okC tad Wn) [] (some k)) = LSR fl rfs k := by
  obtain ⟨Kp, h1, h2, h3, h4⟩ := h.kk
  have hok : ∀ x, Kp x → okC tad Wn x = allOk x := fun x hx => by
    obtain ⟨g1, a, g2⟩ := h1 x hx
    exact h.okW g1 g2
  unfold LSR
  rw [mtL_congr (fun t ht => hok t (by cases ht; exact h3 j hj k hr))]
  exact flw_congr hok h2 _ _ _ (mtL_all (fun x hx => absurd hx List.not_mem_nil) (fun t ht _ => by cases ht; exact h3 j hj k hr))
theorem SI.bg (h : SI kp Wn made fl rfs root own tad trm pnx pen st adr rem half top) (k : Nat) : bgn own tad k = bgn own (tda adr) k := by
  unfold bgn
  cases ho : own k with
  | none => rfl
  | some t =>
    obtain ⟨g1, a, g2, -⟩ := h.lyd.2 k t ho
    have e : tda adr t = a := by unfold tda; rw [g2]; rfl
    simp only [h.ta t a g1 g2, e]
theorem SI.ly (h : SI kp Wn made fl rfs root own tad trm pnx pen st adr rem half top) (hk : kp = 2) : flw (okC tad (Wn / 4)) fl rfs 401 0 (rmb (okC tad (Wn / 4)) fl rfs own tad trm (Wn / 4) (Wn - Wn / 4) (mtN (okC tad (Wn / 4)) root 16 [])) = LYR kp Wn fl rfs root adr own rem := by
  obtain ⟨Kp, h1, h2, h3, h4⟩ := h.kk
  have hok : ∀ x, Kp x → okC tad (Wn / 4) x = okR kp Wn adr x := fun x hx => by
    obtain ⟨g1, a, g2⟩ := h1 x hx
    exact h.okY hk g1 g2
  have hbk : ∀ k t, Wn / 4 ≤ k → bgn own (tda adr) k = some t → trm t = rem t ∧ Kp t := fun k t hk2 hb => by
    have g := (bgn_some hb).1
    obtain ⟨g1, a, g2, -⟩ := h.lyd.2 k t g
    exact ⟨h.rm t a g1 g2, h4 hk k t hk2 g⟩
  unfold LYR
  rw [mtN_congr 16 (fun i hi k hk => hok k (h3 i hi k hk)), rmb_congr (ok2 := okR kp Wn adr) (tad2 := tda adr) (trm2 := rem) hok h2 (fun k _ => h.bg k) hbk]
  refine flw_congr hok h2 _ _ _ (rmb_all (mtN_all (fun x hx => absurd hx List.not_mem_nil) _ (fun i hi k hk _ => h3 i hi k hk)) _ (fun k _ t hb i hi u hu _ => h2 t (hbk _ t (by omega) hb).2 i hi u hu))
/-- those that a minor raises are young, and kept -/
theorem SI.ly_all (h : SI kp Wn made fl rfs root own tad trm pnx pen st adr rem half top) (hk : kp = 2) {Kp : Nat → Prop} (h2 : ∀ x, Kp x → ∀ i, i < fl x → ∀ t, rfs x i = some t → Kp t) (h3 : ∀ i, i < 16 → ∀ t, root i = some t → Kp t) (h4 : kp = 2 → ∀ k t, Wn / 4 ≤ k → own k = some t → Kp t) : ∀ x ∈ LYR kp Wn fl rfs root adr own rem, Kp x ∧ okR kp Wn adr x = true :=
  flw_all (Kp := fun x => Kp x ∧ okR kp Wn adr x = true) (fun x hx i hi k hk ho => ⟨h2 x hx.1 i hi k hk, ho⟩) _ _ _ (rmb_all (mtN_all (fun x hx => absurd hx List.not_mem_nil) _ (fun i hi k hk ho => ⟨h3 i hi k hk, ho⟩)) _ (fun k _ t hb i hi u hu ho => ⟨h2 t (h4 hk _ t (by omega) (bgn_some hb).1) i hi u hu, ho⟩))
theorem SI.hB (h : SI kp Wn made fl rfs root own tad trm pnx pen st adr rem half top) {Kp : Nat → Prop} (h1 : ∀ x, Kp x → x < made ∧ ∃ a, adr x = some a) : ∀ M : List Nat, M.Nodup → (∀ x ∈ M, Kp x) → M.length ≤ Wn := fun M hM hx => lie_le h.lyd M hM (fun x hx2 => h1 x (hx x hx2))
theorem SI.lr_len (h : SI kp Wn made fl rfs root own tad trm pnx pen st adr rem half top) : (LRR fl rfs root).length ≤ Wn := by
  obtain ⟨Kp, h1, h2, h3, h4⟩ := h.kk
  exact h.hB h1 _ LRR_nd (LRR_all h2 h3)
theorem SI.lr_lie (h : SI kp Wn made fl rfs root own tad trm pnx pen st adr rem half top) : ∀ x ∈ LRR fl rfs root, x < made ∧ ∃ a, adr x = some a := fun x hx => by
  obtain ⟨Kp, h1, h2, h3, h4⟩ := h.kk
  exact h1 x (LRR_all h2 h3 x hx)
theorem swO_congr {c d : Nat → Bool} {own : Nat → Option Nat} (h : ∀ k t, own k = some t → c t = d t) : swO c own = swO d own := by
  funext k
  unfold swO
  cases ho : own k with
  | none => rfl
  | some t => simp only [h k t ho]
/-- a sweep -/
theorem SI.sweep (h : SI kp Wn made fl rfs root own tad trm pnx pen st adr rem half top) (old : Bool) (hc : (old = true ∧ kp = 2) ∨ (old = false ∧ kp = 0)) : SI kp Wn made fl rfs root (swO (blw made (ded old kp Wn adr (LRR fl rfs root))) own) tad trm pnx pen st (swA (blw made (ded old kp Wn adr (LRR fl rfs root))) adr) (swR (blw made (ded old kp Wn adr (LRR fl rfs root))) rem) half top := by
  have hlen := h.lr_len
  have hw := h.w400
  refine ⟨h.kp2, h.w16, h.w400, h.md, h.fl6, h.rfb, Lay_sw h.lyd _, fun o a ho ha => h.ta o a ho (swA_some ha).1, h.tb, fun o a ho ha => ?_, fun o ho => ?_, ⟨fun x => x ∈ LRR fl rfs root, fun x hx => ?_, LRR_closed (by omega), LRR_root, fun hk => ?_⟩, fun hk => ?_, fun hk => ?_⟩
  · obtain ⟨g1, g2⟩ := swA_some ha
    unfold swR
    rw [if_neg (by rw [g2]; decide)]
    exact h.rm o a ho g1
  · unfold swR
    split
    · rfl
    · exact h.rz o ho
  · obtain ⟨g1, a, g2⟩ := h.lr_lie x hx
    exact ⟨g1, a, by rw [swA_kept (blw_in (ded_in hx))]; exact g2⟩
  · rcases hc with ⟨rfl, -⟩ | ⟨-, z⟩
    · exact sw_keeps hk h.lyd (h.y hk)
    · omega
  · rcases hc with ⟨-, z⟩ | ⟨-, z⟩ <;> omega
  · obtain ⟨g1, g2, g3, g4, g5⟩ := h.c2 hk
    refine ⟨g1, g2, g3, fun o a ho ha hy => ⟨(g4 o a ho (swA_some ha).1 hy).1, ?_⟩, fun x a hx ha hy i hi t b ht hb hz => ?_⟩
    · unfold swR
      split
      · rfl
      · exact (g4 o a ho (swA_some ha).1 hy).2
    · obtain ⟨q1, q2⟩ := swA_some ha
      unfold swR
      rw [if_neg (by rw [q2]; decide)]
      exact g5 x a hx q1 hy i hi t b ht (swA_some hb).1 hz
theorem SI.sw_own (h : SI kp Wn made fl rfs root own tad trm pnx pen st adr rem half top) (L : List Nat) : swO (dd 0 Wn tad (ntL L)) own = swO (blw made (ded false kp Wn adr L)) own := swO_congr (fun k t ht => by
  obtain ⟨g1, a, g2, g3, g4⟩ := h.lyd.2 k t ht
  have := (h.lyd.1 t a g1 g2).1
  unfold dd blw ded ntL
  rw [h.ta t a g1 g2, g2, decide_eq_true g1, decide_eq_true (show 0 ≤ a ∧ a < Wn by omega)]
  simp)
theorem SI.sw_own2 (h : SI kp Wn made fl rfs root own tad trm pnx pen st adr rem half top) (hk : kp = 2) (L : List Nat) : swO (dd (Wn / 4) Wn tad (ntL L)) own = swO (blw made (ded true kp Wn adr L)) own := swO_congr (fun k t ht => by
  obtain ⟨g1, a, g2, g3, g4⟩ := h.lyd.2 k t ht
  have := (h.lyd.1 t a g1 g2).1
  unfold dd blw ded ntL
  rw [h.ta t a g1 g2, g2, decide_eq_true g1]
  by_cases z : a < Wn / 4
  · rw [isOld_y g2 z, decide_eq_false (show ¬ (Wn / 4 ≤ a ∧ a < Wn) by omega)]
    simp
  · rw [isOld_o hk g2 z, decide_eq_true (show Wn / 4 ≤ a ∧ a < Wn by omega)]
    simp)
theorem SI.sw_cnt (h : SI kp Wn made fl rfs root own tad trm pnx pen st adr rem half top) (L : List Nat) : cnt (cw 0 own tad (ntL L)) Wn = cnt (ded false kp Wn adr L) made := by
  have e := cnt_bg (ntL L) h.lyd h.ta
  rw [cnt_congr (d := bgC own tad (ntL L)) Wn (fun k _ => by
    unfold cw bgC
    rw [decide_eq_true (Nat.zero_le k)]
    cases bgn own tad k <;> rfl), e]
  refine cnt_congr made (fun o _ => ?_)
  unfold ded ntL
  simp
theorem SI.sw_cnt2 (h : SI kp Wn made fl rfs root own tad trm pnx pen st adr rem half top) (hk : kp = 2) (L : List Nat) : cnt (cw (Wn / 4) own tad (ntL L)) Wn = cnt (ded true kp Wn adr L) made := by
  have e := cnt_bg (fun t => decide (Wn / 4 ≤ tad t) && ntL L t) h.lyd h.ta
  rw [cnt_congr (d := bgC own tad (fun t => decide (Wn / 4 ≤ tad t) && ntL L t)) Wn (fun k _ => by
    unfold cw bgC
    cases hb : bgn own tad k with
    | none => simp
    | some t =>
      have h1 := (bgn_some hb).2
      show (decide (Wn / 4 ≤ k) && ntL L t) = (decide (Wn / 4 ≤ tad t) && ntL L t)
      rw [h1]), e]
  refine cnt_congr made (fun o ho => ?_)
  unfold ded ntL
  cases ha : adr o with
  | none => rfl
  | some a =>
    show (true && (decide (Wn / 4 ≤ tad o) && decide (o ∉ L))) = (true && (decide (o ∉ L) && (!true || isOldR kp Wn adr o)))
    rw [h.ta o a ho ha]
    by_cases z : a < Wn / 4
    · rw [isOld_y ha z, decide_eq_false (show ¬ Wn / 4 ≤ a by omega)]
      simp
    · rw [isOld_o hk ha z, decide_eq_true (show Wn / 4 ≤ a by omega)]
      simp
end SIL
