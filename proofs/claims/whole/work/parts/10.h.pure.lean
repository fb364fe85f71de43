/-! PURE: the month ends: sending, dunning, the next month -/
def sB (σ : SC) (i : Nat) (u : Int32) : SC := ym (ym (yc (yc σ 2 (xn σ 3) (xc σ 2 (xn σ 3) - 1)) 3 (xn σ 3) (xc σ 3 (xn σ 3) + 1)) 8 i 1) 10 i u
theorem sendTo_eq {σ : SC} {i : Nat} {B R : Int32} (hi : i < xn σ 0) (hc : ¬ xn σ 1 ≤ xn σ 3) (hst : 0 < xc σ 2 (xn σ 3)) (u : Int32) (hu : u = if xm σ 7 i ≤ 0 then 0 else 1) : fC_Cl_sendTo σ i B R = Option.bind (fC_Cl_write (ym (sB σ i u) 4 i (xm σ 4 i + 1)) i 2 (-(xc σ 0 (xn σ 3))).toInt64) (fun u7 => if B ≤ 0 then some u7 else if xn u7 0 ≤ i then none else if B = 0 then none else if (xm u7 4 i - xm u7 4 i / B * B) = 0 then Option.bind (fC_Cl_write u7 i 5 R.toInt64) (fun u10 => some u10) else some u7) := by
  unfold fC_Cl_sendTo
  rw [if_neg hc, if_pos hst]
  unfold fC_Co_takeOut
  rw [if_neg hc, bd_s]
  refine (if_neg (show ¬ xn σ 0 ≤ i from Nat.not_le.mpr hi)).trans ?_
  by_cases c : xm σ 7 i ≤ 0
  · rw [if_pos c] at hu
    subst hu
    refine (congrArg (fun z => Option.bind z _) (if_pos (show xm (ym (yc (yc σ 2 (xn σ 3) (xc σ 2 (xn σ 3) - 1)) 3 (xn σ 3) (xc (yc σ 2 (xn σ 3) (xc σ 2 (xn σ 3) - 1)) 3 (xn σ 3) + 1)) 8 i 1) 7 i ≤ 0 from c))).trans ?_
    rw [bd_s, if_pos b0]
    exact (if_neg (show ¬ xn σ 1 ≤ xn σ 3 from hc)).trans rfl
  · rw [if_neg c] at hu
    subst hu
    refine (congrArg (fun z => Option.bind z _) (if_neg (show ¬ xm (ym (yc (yc σ 2 (xn σ 3) (xc σ 2 (xn σ 3) - 1)) 3 (xn σ 3) (xc (yc σ 2 (xn σ 3) (xc σ 2 (xn σ 3) - 1)) 3 (xn σ 3) + 1)) 8 i 1) 7 i ≤ 0 from c))).trans ?_
    rw [bd_s, if_pos b1]
    exact (if_neg (show ¬ xn σ 1 ≤ xn σ 3 from hc)).trans rfl
theorem RelC.bought {c k : Nat} {σ : SC} {ρ : SR} (h : RelC c k σ ρ) (i : Nat) (v : Int32) : RelC c k (ym σ 4 i v) (pf ρ 13 i v) := by
  refine ⟨h.1, h.2.1, h.2.2.1, h.2.2.2.1, ?_, h.2.2.2.2.2.1, h.2.2.2.2.2.2.1, h.2.2.2.2.2.2.2.1, h.2.2.2.2.2.2.2.2⟩
  refine h.2.2.2.2.1.at (i := i) rfl rfl (fun j e q => ?_) (fun q => ?_)
  · rw [colm_ne e, colg_ne e]; exact q
  · rw [colm_eq, colg_eq]
    exact ⟨q.1, q.2.1, q.2.2.1, q.2.2.2.1, rfl, q.2.2.2.2.2⟩
theorem RelC.short {c k : Nat} {σ : SC} {ρ : SR} (h : RelC c k σ ρ) (i : Nat) : RelC c k (ym σ 9 i 1) (pf ρ 17 i 1) := by
  refine ⟨h.1, h.2.1, h.2.2.1, h.2.2.2.1, ?_, h.2.2.2.2.2.1, h.2.2.2.2.2.2.1, h.2.2.2.2.2.2.2.1, h.2.2.2.2.2.2.2.2⟩
  refine h.2.2.2.2.1.at (i := i) rfl rfl (fun j e q => ?_) (fun q => ?_)
  · rw [colm_ne e, colg_ne e]; exact q
  · rw [colm_eq, colg_eq]
    exact ⟨q.1, q.2.1, q.2.2.1, q.2.2.2.1, q.2.2.2.2.1, q.2.2.2.2.2.1, q.2.2.2.2.2.2.1, q.2.2.2.2.2.2.2.1, rfl, q.2.2.2.2.2.2.2.2.2.1, q.2.2.2.2.2.2.2.2.2.2.1, Or.inr rfl, q.2.2.2.2.2.2.2.2.2.2.2.2⟩
theorem RelC.got {c k : Nat} {σ : SC} {ρ : SR} (h : RelC c k σ ρ) (i : Nat) {u : Int32} (hu : u = gf ρ 18 i) : RelC c k (ym (ym σ 8 i 1) 10 i u) (pf ρ 16 i 1) := by
  refine ⟨h.1, h.2.1, h.2.2.1, h.2.2.2.1, ?_, h.2.2.2.2.2.1, h.2.2.2.2.2.2.1, h.2.2.2.2.2.2.2.1, h.2.2.2.2.2.2.2.2⟩
  refine h.2.2.2.2.1.at (i := i) rfl rfl (fun j e q => ?_) (fun q => ?_)
  · rw [colm_ne e, colm_ne e, colg_ne e]; exact q
  · rw [colm_eq, colm_eq, colg_eq]
    exact ⟨q.1, q.2.1, q.2.2.1, q.2.2.2.1, q.2.2.2.2.1, q.2.2.2.2.2.1, q.2.2.2.2.2.2.1, rfl, q.2.2.2.2.2.2.2.2.1, hu, Or.inr rfl, q.2.2.2.2.2.2.2.2.2.2.2⟩
/-- the reference notes a refusal; nothing was sent as yet -/
theorem RelC.forget {c k : Nat} {σ : SC} {ρ : SR} (h : RelC c k σ ρ) (i : Nat) {u : Int32} (hu : u = 0 ∨ u = 1) : RelC c k (ym (ym (ym σ 8 i 0) 9 i 0) 10 i 0) (rhoA ρ i u) := by
  have hn : vp_nar .boolean u = u := by rcases hu with rfl | rfl <;> rfl
  unfold rhoA
  rw [hn]
  refine ⟨h.1, h.2.1, h.2.2.1, h.2.2.2.1, ?_, h.2.2.2.2.2.1, h.2.2.2.2.2.2.1, h.2.2.2.2.2.2.2.1, h.2.2.2.2.2.2.2.2⟩
  refine h.2.2.2.2.1.at (i := i) rfl rfl (fun j e q => ?_) (fun q => ?_)
  · rw [colm_ne e, colm_ne e, colm_ne e, colg_ne e, colg_ne e, colg_ne e]; exact q
  · rw [colm_eq, colm_eq, colm_eq, colg_eq, colg_eq, colg_eq]
    exact ⟨q.1, q.2.1, q.2.2.1, q.2.2.2.1, q.2.2.2.2.1, q.2.2.2.2.2.1, q.2.2.2.2.2.2.1, rfl, rfl, rfl, Or.inl rfl, Or.inl rfl, hu, q.2.2.2.2.2.2.2.2.2.2.2.2.2⟩
theorem cell_ix' {j k : Nat} (hj : j ≤ 60) (hk : k < 8) : ¬ (nI (8 * j + k) < 0 ∨ 488 ≤ 8 * j + k) := fun q => by
  rcases q with q | q
  · exact nI_pos (by omega) q
  · omega
theorem send_eq {c x : Nat} {σ σ0 : SC} {ρ : SR} (h : RelC c x σ ρ) {i m p bon part : Nat} (hc40 : c ≤ 40) (hi : i < xn σ 0) (hm : xn σ 3 = m) (h2 : xn σ 2 + 2 ≤ 900) (hg : gf ρ 21 (8 * m) = nI p) (hp : p ≤ 5000) (hb : bon ≤ 10000) (hpa : part ≤ 10000) (hz : xz σ = xz σ0) (hx : xf σ = xf σ0) (r2 : fC_Cl_inForceNow σ0 (nI 2) = some (nI bon)) (r7 : fC_Cl_inForceNow σ0 (nI 7) = some (nI part)) (h18 : gf ρ 18 i = if gf ρ 15 i ≤ 0 then 0 else 1) :
    ∃ σ' ρ' x', fC_Cl_sendTo σ i (nI bon) (nI (p * part / 100)) = some σ' ∧ sndR (nI (8 * m)) (nI p) (nI x) (nI i) ρ = some (nI x', ρ') ∧ RelC c x' σ' ρ' ∧ xn σ' 0 = xn σ 0 ∧ xn σ' 3 = xn σ 3 ∧ xn σ' 2 ≤ xn σ 2 + 2 ∧ xz σ' = xz σ ∧ xf σ' = xf σ ∧ gf ρ' 21 (8 * m) = nI p := by
  subst hm
  have hMo := h.2.2.2.2.2.1.1
  have h60 := hMo.2.2.1
  have h40 := h.2.2.2.2.1.2.1
  have hc : ¬ xn σ 1 ≤ xn σ 3 := by rw [hMo.2.2.2.1]; omega
  obtain ⟨pr, st, l1, l2, g1, g2⟩ := h.2.2.2.2.2.1.2.1 (xn σ 3) (Nat.le_refl _)
  have x2 : xc σ 2 (xn σ 3) = nI st := (hMo.2.2.2.2.1 _ 2 (Nat.le_refl _) (by omega)).trans g2
  have x3 : xc σ 3 (xn σ 3) = nI x := (hMo.2.2.2.2.1 _ 3 (Nat.le_refl _) (by omega)).trans h.2.2.2.2.2.1.2.2
  have x0 : xc σ 0 (xn σ 3) = nI p := (hMo.2.2.2.2.1 _ 0 (Nat.le_refl _) (by omega)).trans hg
  have x7 : xc σ 7 (xn σ 3) = gf ρ 21 (8 * xn σ 3 + 7) := hMo.2.2.2.2.1 _ 7 (Nat.le_refl _) (by omega)
  have m7 : xm σ 7 i = gf ρ 15 i := (h.2.2.2.2.1.2.2 i hi).2.2.2.2.2.2.1
  have m4 : xm σ 4 i = gf ρ 13 i := (h.2.2.2.2.1.2.2 i hi).2.2.2.2.1
  unfold sndR
  rw [a8_2, a8_3, a8_7, if_neg (cell_ix h60 (by omega)), nI_clamp (n := i) (by omega), nI_clamp (n := 8 * xn σ 3 + 2) (by omega), nI_clamp (n := 8 * xn σ 3 + 3) (by omega), nI_clamp (n := 8 * xn σ 3 + 7) (by omega)]
  by_cases cs : st = 0
  · have z2 : gf ρ 21 (8 * xn σ 3 + 2) = 0 := by rw [g2, cs]; rfl
    rw [if_pos z2, if_neg (cell_ix' h60 (show 7 < 8 by omega))]
    unfold fC_Cl_sendTo
    rw [if_neg hc, if_neg (show ¬ 0 < xc σ 2 (xn σ 3) by rw [x2, cs]; decide), if_neg (Nat.not_le.mpr hi)]
    refine ⟨_, _, x, rfl, rfl, ?_, rfl, rfl, by show xn σ 2 ≤ _; omega, rfl, rfl, ?_⟩
    · have := (h.short i).cell (j := xn σ 3) (q := 7) (Nat.le_refl _) (by omega) (xc σ 7 (xn σ 3) + 1)
      rw [x7] at this ⊢
      exact this
    · rw [gfpf_eq, pk_un (by omega)]; exact hg
  · have z2 : ¬ gf ρ 21 (8 * xn σ 3 + 2) = 0 := by rw [g2]; exact nI_ne0 (by omega) (by omega)
    rw [if_neg z2, if_neg (cell_ix' h60 (show 3 < 8 by omega))]
    rw [sendTo_eq hi hc (by rw [x2]; exact iNle.mp (nI_nle (by omega) (by omega))) (gf ρ 18 i) (by rw [h18, m7]), x0, m4]
    -- the state behind the volume
    have hs1 : nI st - 1 = nI (st - 1) := by
      have := nI_pred (st - 1)
      rw [show st - 1 + 1 = st by omega] at this
      exact this
    have hA : RelC c (x + 1) (sB σ i (gf ρ 18 i)) (pf (pf (pf ρ 16 i 1) 21 (8 * xn σ 3 + 2) (nI (st - 1))) 21 (8 * xn σ 3 + 3) (nI (x + 1))) := by
      have q1 := (h.got i (u := gf ρ 18 i) rfl).stock (c' := c) (Nat.le_refl _) (j := xn σ 3) (Nat.le_refl _) (v := nI (st - 1)) (fun pr' st' a b e1 e2 => ⟨st - 1, rfl, by
        have e2' : gf ρ 21 (8 * xn σ 3 + 2) = nI st' := e2
        have e1' : gf ρ 21 (8 * xn σ 3 + 1) = nI pr' := e1
        rw [g2] at e2'
        rw [g1] at e1'
        have b' : st' ≤ pr' + 40 * (xn σ 3 - xn σ 3) + c := b
        have := (nI_eq (by omega) (by omega)).mp e2'
        have := (nI_eq (by omega) (by omega)).mp e1'
        show st - 1 ≤ pr' + 40 * (xn σ 3 - xn σ 3) + c
        omega⟩)
      have q2 := q1.sent (x + 1)
      unfold sB
      rw [x2, x3, nI_1, hs1]
      exact q2
    have rB : gf (pf ρ 16 i 1) 21 (8 * xn σ 3 + 2) = nI st := g2
    have rC : gf (pf (pf ρ 16 i 1) 21 (8 * xn σ 3 + 2) (nI (st - 1))) 21 (8 * xn σ 3 + 3) = nI x := by
      rw [gfpf_eq, pk_un (by omega)]; exact h.2.2.2.2.2.1.2.2
    rw [rB, hs1, rC, nI_1]
    have kn : xn (sB σ i (gf ρ 18 i)) = xn σ := rfl
    have kz : xz (sB σ i (gf ρ 18 i)) = xz σ := rfl
    have kx : xf (sB σ i (gf ρ 18 i)) = xf σ := rfl
    have k4 : xm (sB σ i (gf ρ 18 i)) 4 i = gf ρ 13 i := m4
    have kg : gf (pf (pf (pf ρ 16 i 1) 21 (8 * xn σ 3 + 2) (nI (st - 1))) 21 (8 * xn σ 3 + 3) (nI (x + 1))) 21 (8 * xn σ 3) = nI p := by
      rw [gfpf_eq, pk_un (by omega), gfpf_eq, pk_un (by omega)]; exact hg
    have kr : gf (pf (pf (pf ρ 16 i 1) 21 (8 * xn σ 3 + 2) (nI (st - 1))) 21 (8 * xn σ 3 + 3) (nI (x + 1))) 13 i = gf ρ 13 i := rfl
    generalize sB σ i (gf ρ 18 i) = σ1 at *
    generalize pf (pf (pf ρ 16 i 1) 21 (8 * xn σ 3 + 2) (nI (st - 1))) 21 (8 * xn σ 3 + 3) (nI (x + 1)) = ρ1 at *
    -- the volume's entry
    have vol : ∃ σ2 ρ2, fC_Cl_write (ym σ1 4 i (gf ρ 13 i + 1)) i 2 (-nI p).toInt64 = some (ym σ2 4 i (gf ρ 13 i + 1)) ∧ (if (nI p : Int32) ≤ 0 then some ρ1 else Option.bind (fR_enter ρ1 (nI i) 2 (-nI p).toInt64) (fun u17 => some u17)) = some ρ2 ∧ RelC c (x + 1) σ2 ρ2 ∧ xn σ2 0 = xn σ 0 ∧ xn σ2 3 = xn σ 3 ∧ xn σ2 2 ≤ xn σ 2 + 1 ∧ xz σ2 = xz σ ∧ xf σ2 = xf σ ∧ gf ρ2 13 i = gf ρ 13 i ∧ gf ρ2 21 (8 * xn σ 3) = nI p := by
      by_cases cp : p = 0
      · subst cp
        rw [ln0, write_0, if_pos (by decide)]
        exact ⟨σ1, ρ1, rfl, rfl, hA, by rw [kn], by rw [kn], by rw [kn]; omega, kz, kx, kr, kg⟩
      · have hi1 : i < xn σ1 0 := by rw [kn]; exact hi
        have hn1 : xn σ1 2 < 900 := by rw [kn]; omega
        have hi1' : i < xn (ym σ1 4 i (gf ρ 13 i + 1)) 0 := hi1
        have hn1' : xn (ym σ1 4 i (gf ρ 13 i + 1)) 2 < 900 := hn1
        have ha : (-nI p).toInt64 ≠ 0 := ln_ne0 (by omega) (by omega)
        rw [write_eq hi1' hn1' 2 ha, if_neg (nI_nle (by omega) (by omega)), enter_eq hA.2.2.2.2.2.2.1.1 hn1, bd_s]
        refine ⟨wrC σ1 i 2 (-nI p).toInt64, _, rfl, rfl, hA.wr hi1 hn1 _ _, ?_, ?_, ?_, kz, kx, ?_, ?_⟩
        · show xn σ1 0 = _; rw [kn]
        · show xn σ1 3 = _; rw [kn]
        · show xn σ1 2 + 1 ≤ _; rw [kn]; omega
        · rw [gfwr (by decide)]; exact kr
        · rw [gfwr (by decide)]; exact kg
    obtain ⟨σ2, ρ2, v1, v2, hB, n0, n3, n2, nz, nx, n13, n21⟩ := vol
    rw [v1, bd_s, v2, bd_s, n13]
    have hC := hB.bought i (gf ρ 13 i + 1)
    have t0 : xn (ym σ2 4 i (gf ρ 13 i + 1)) 0 = xn σ 0 := n0
    have t3 : xn (ym σ2 4 i (gf ρ 13 i + 1)) 3 = xn σ 3 := n3
    have t2 : xn (ym σ2 4 i (gf ρ 13 i + 1)) 2 ≤ xn σ 2 + 1 := n2
    have tz : xz (ym σ2 4 i (gf ρ 13 i + 1)) = xz σ := nz
    have tx : xf (ym σ2 4 i (gf ρ 13 i + 1)) = xf σ := nx
    have t4 : xm (ym σ2 4 i (gf ρ 13 i + 1)) 4 i = gf ρ 13 i + 1 := by rw [xmym_eq, pk_us]
    have t13 : gf (pf ρ2 13 i (gf ρ 13 i + 1)) 13 i = gf ρ 13 i + 1 := by rw [gfpf_eq, pk_us]
    have t21 : gf (pf ρ2 13 i (gf ρ 13 i + 1)) 21 (8 * xn σ 3) = nI p := n21
    generalize ym σ2 4 i (gf ρ 13 i + 1) = σ3 at *
    generalize pf ρ2 13 i (gf ρ 13 i + 1) = ρ3 at *
    have hmul : p * part ≤ 50000000 := mul_bd hp hpa
    rw [show (2 : Int32) = nI 2 from rfl, rule_fix hC (by omega) (tz.trans hz) (tx.trans hx) r2, bd_s, show (7 : Int32) = nI 7 from rfl, rule_fix hC (by omega) (tz.trans hz) (tx.trans hx) r7, bd_s, pk_mul, Nat.mul_comm part p, show (100 : Int32) = nI 100 from rfl, pk_div (by omega) (by omega) (by omega), t4, t13]
    have done : ∃ σ' ρ' x', some σ3 = some σ' ∧ some (nI (x + 1), ρ3) = some (nI x', ρ') ∧ RelC c x' σ' ρ' ∧ xn σ' 0 = xn σ 0 ∧ xn σ' 3 = xn σ 3 ∧ xn σ' 2 ≤ xn σ 2 + 2 ∧ xz σ' = xz σ ∧ xf σ' = xf σ ∧ gf ρ' 21 (8 * xn σ 3) = nI p := ⟨σ3, ρ3, x + 1, rfl, rfl, hC, t0, t3, by omega, tz, tx, t21⟩
    by_cases cb : bon = 0
    · have lb : (nI bon : Int32) ≤ 0 := by rw [cb]; decide
      rw [if_pos lb, if_pos lb]
      exact done
    · have lb : ¬ (nI bon : Int32) ≤ 0 := nI_nle (by omega) (by omega)
      have nb : ¬ (nI bon : Int32) = 0 := nI_ne0 (by omega) (by omega)
      rw [if_neg lb, if_neg lb, if_neg nb, if_neg (show ¬ xn σ3 0 ≤ i by rw [t0]; omega), if_neg nb]
      by_cases cr : (gf ρ 13 i + 1 - (gf ρ 13 i + 1) / nI bon * nI bon) = 0
      · rw [if_pos cr, if_pos cr]
        by_cases cf : p * part / 100 = 0
        · rw [cf, if_pos (by decide), l0, write_0, bd_s]
          exact done
        · have hdl : p * part / 100 ≤ p * part := Nat.div_le_self _ _
          obtain ⟨w1, w2, w3⟩ := wr_both hC (i := i) (by omega) (by omega) (5 : Int32) (a := (nI (p * part / 100)).toInt64) (l_ne0 (by omega) (by omega))
          rw [if_neg (nI_nle (by omega) (by omega)), w1, w2, bd_s, bd_s]
          exact ⟨_, _, x + 1, rfl, rfl, w3, t0, t3, by show xn σ3 2 + 1 ≤ _; omega, tz, tx, by rw [gfwr (by decide)]; exact t21⟩
      · rw [if_neg cr, if_neg cr]
        exact done
theorem sa_loop {σ0 : SC} {m p lim bon part : Nat} (hp : p ≤ 5000) (hl : lim ≤ 10000) (hb : bon ≤ 10000) (hpa : part ≤ 10000) (r0 : fC_Cl_inForceNow σ0 (nI 0) = some (nI lim)) (r2 : fC_Cl_inForceNow σ0 (nI 2) = some (nI bon)) (r7 : fC_Cl_inForceNow σ0 (nI 7) = some (nI part)) : ∀ (f i x : Nat) (σ : SC) (ρ : SR), i ≤ xn σ 0 → xn σ 0 - i < f → RelC 40 x σ ρ → xn σ 3 = m → xn σ 2 ≤ 780 + 2 * i → xz σ = xz σ0 → xf σ = xf σ0 → gf ρ 21 (8 * m) = nI p →
    ∃ σ' ρ' x', fC_Cl_sendChoice_L29 (nI lim) (nI bon) (nI (p * part / 100)) f (nI i) σ = some σ' ∧ fR_sendAll_L20 (nI (8 * m)) (nI p) f (nI x) (nI i) ρ = some (nI x', ρ') ∧ RelC 40 x' σ' ρ' ∧ xn σ' 3 = m ∧ xz σ' = xz σ0 ∧ xf σ' = xf σ0 := by
  intro f
  induction f with
  | zero => intro i x σ ρ _ q; omega
  | succ f ih =>
    intro i x σ ρ hi hf h hm h2 hz hx hg
    obtain ⟨m1, m2, m3⟩ := h.2.2.2.2.1
    rw [fC_Cl_sendChoice_L29, sendAll_step, m1]
    by_cases c : i = xn σ 0
    · rw [← c, if_pos (nI_le (Nat.le_refl _) (by omega)), if_pos (nI_le (Nat.le_refl _) (by omega))]
      exact ⟨σ, ρ, x, rfl, rfl, h, hm, hz, hx⟩
    · have hlt' : i < xn σ 0 := by omega
      rw [if_neg (nI_ge hlt' (by omega)), if_neg (nI_ge hlt' (by omega)), if_neg (ix_ok hlt' (by omega)), if_neg (ix_ok (n := 40) (by omega) (by omega)), nI_clamp (by omega), nI_1]
      unfold fC_Me_forgetLatestChoice
      rw [if_neg (Nat.not_le.mpr hlt'), bd_s]
      have m7 : xm (ym (ym (ym σ 8 i 0) 9 i 0) 10 i 0) 7 i = gf ρ 15 i := (m3 i hlt').2.2.2.2.2.2.1
      have m12 : xm (ym (ym (ym σ 8 i 0) 9 i 0) 10 i 0) 3 i = gf ρ 12 i := (m3 i hlt').2.2.2.1
      have hu : (if gf ρ 15 i ≤ 0 then some (0 : Int32) else some 1) = some (if gf ρ 15 i ≤ 0 then 0 else 1) := by split <;> rfl
      have hu01 : (if gf ρ 15 i ≤ 0 then (0 : Int32) else 1) = 0 ∨ (if gf ρ 15 i ≤ 0 then (0 : Int32) else 1) = 1 := by split <;> simp
      rw [hu, bd_s]
      have hA := h.forget i hu01
      have e18 : gf (rhoA ρ i (if gf ρ 15 i ≤ 0 then 0 else 1)) 18 i = if gf (rhoA ρ i (if gf ρ 15 i ≤ 0 then 0 else 1)) 15 i ≤ 0 then 0 else 1 := by
        show gf (pf (pf (pf ρ 16 i 0) 17 i 0) 18 i _) 18 i = if gf ρ 15 i ≤ 0 then 0 else 1
        rw [gfpf_eq, pk_us]
        rcases hu01 with q | q <;> rw [q] <;> rfl
      have e21 : gf (rhoA ρ i (if gf ρ 15 i ≤ 0 then 0 else 1)) 21 (8 * m) = nI p := hg
      have kn : xn (ym (ym (ym σ 8 i 0) 9 i 0) 10 i 0) = xn σ := rfl
      have kz : xz (ym (ym (ym σ 8 i 0) 9 i 0) 10 i 0) = xz σ := rfl
      have kx : xf (ym (ym (ym σ 8 i 0) 9 i 0) 10 i 0) = xf σ := rfl
      generalize ym (ym (ym σ 8 i 0) 9 i 0) 10 i 0 = σ1 at *
      generalize rhoA ρ i (if gf ρ 15 i ≤ 0 then 0 else 1) = ρ1 at *
      have hi1 : i < xn σ1 0 := by rw [kn]; exact hlt'
      rw [if_neg (Nat.not_le.mpr hi1), m12]
      have skip := ih (i + 1) x σ1 ρ1 (by rw [kn]; omega) (by rw [kn]; omega) hA (by rw [kn]; exact hm) (by rw [kn]; omega) (kz.trans hz) (kx.trans hx) e21
      have send : ∃ σ' ρ' x', Option.bind (Option.bind (fC_Cl_sendTo σ1 i (nI bon) (nI (p * part / 100))) (fun u6 => some u6)) (fun u4 => fC_Cl_sendChoice_L29 (nI lim) (nI bon) (nI (p * part / 100)) f (nI (i + 1)) u4) = some σ' ∧ Option.bind (sndR (nI (8 * m)) (nI p) (nI x) (nI i) ρ1) (fun u3 => fR_sendAll_L20 (nI (8 * m)) (nI p) f u3.1 (nI (i + 1)) u3.2) = some (nI x', ρ') ∧ RelC 40 x' σ' ρ' ∧ xn σ' 3 = m ∧ xz σ' = xz σ0 ∧ xf σ' = xf σ0 := by
        obtain ⟨σ2, ρ2, x2, s1, s2, s3, s4, s5, s6, s7, s8, s9⟩ := send_eq hA (by omega) hi1 (m := m) (p := p) (bon := bon) (part := part) (σ0 := σ0) (by rw [kn]; exact hm) (by rw [kn]; omega) e21 hp hb hpa (kz.trans hz) (kx.trans hx) r2 r7 e18
        rw [s1, s2, bd_s, bd_s, bd_s]
        have r := ih (i + 1) x2 σ2 ρ2 (by rw [s4, kn]; omega) (by rw [s4, kn]; omega) s3 (by rw [s5, kn]; exact hm) (by rw [kn] at s6; omega) (s7.trans (kz.trans hz)) (s8.trans (kx.trans hx)) s9
        exact r
      by_cases c1 : gf ρ 12 i = 0
      · rw [if_pos c1, if_pos c1]
        unfold fC_Me_refusedInTime
        rw [if_neg (Nat.not_le.mpr hi1), m7]
        by_cases c2 : gf ρ 15 i ≤ 0
        · rw [if_pos c2, if_pos c2, bd_s, if_pos rfl]
          exact send
        · rw [if_neg c2, if_neg c2]
          have q0 := rule_fix hA (j := 0) (by omega) (kz.trans hz) (kx.trans hx) r0
          rw [nI_0] at q0
          rw [q0, bd_s]
          by_cases c3 : nI lim < gf ρ 15 i
          · rw [if_pos c3, if_pos c3, bd_s, if_pos rfl]
            exact send
          · rw [if_neg c3, if_neg c3, bd_s, if_neg one_ne, bd_s, bd_s]
            exact skip
      · rw [if_neg c1, if_neg c1, bd_s, bd_s]
        exact skip
