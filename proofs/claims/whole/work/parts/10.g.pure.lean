/-! PURE: the month ends: taking back -/
def sndR (l1 l2 x3 x4 : Int32) (ρ : SR) : Option (Int32 × SR) :=
    if (l1 + (2 : Int32)) < 0 ∨ 488 ≤ ((l1 + (2 : Int32))).toNatClampNeg then none else
    if (gf ρ 21 ((l1 + (2 : Int32))).toNatClampNeg) = 0 then
    if (l1 + (7 : Int32)) < 0 ∨ 488 ≤ ((l1 + (7 : Int32))).toNatClampNeg then none else
    some (x3, pf (pf ρ 17 (x4).toNatClampNeg ((1 : Int32))) 21 ((l1 + (7 : Int32))).toNatClampNeg (((gf (pf ρ 17 (x4).toNatClampNeg ((1 : Int32))) 21 ((l1 + (7 : Int32))).toNatClampNeg) + (1 : Int32))))
    else
    if (l1 + (3 : Int32)) < 0 ∨ 488 ≤ ((l1 + (3 : Int32))).toNatClampNeg then none else
    Option.bind (if l2 ≤ 0 then
    some (pf (pf (pf ρ 16 (x4).toNatClampNeg ((1 : Int32))) 21 ((l1 + (2 : Int32))).toNatClampNeg (((gf (pf ρ 16 (x4).toNatClampNeg ((1 : Int32))) 21 ((l1 + (2 : Int32))).toNatClampNeg) - (1 : Int32)))) 21 ((l1 + (3 : Int32))).toNatClampNeg (((gf (pf (pf ρ 16 (x4).toNatClampNeg ((1 : Int32))) 21 ((l1 + (2 : Int32))).toNatClampNeg (((gf (pf ρ 16 (x4).toNatClampNeg ((1 : Int32))) 21 ((l1 + (2 : Int32))).toNatClampNeg) - (1 : Int32)))) 21 ((l1 + (3 : Int32))).toNatClampNeg) + (1 : Int32))))
    else
    Option.bind (fR_enter (pf (pf (pf ρ 16 (x4).toNatClampNeg ((1 : Int32))) 21 ((l1 + (2 : Int32))).toNatClampNeg (((gf (pf ρ 16 (x4).toNatClampNeg ((1 : Int32))) 21 ((l1 + (2 : Int32))).toNatClampNeg) - (1 : Int32)))) 21 ((l1 + (3 : Int32))).toNatClampNeg (((gf (pf (pf ρ 16 (x4).toNatClampNeg ((1 : Int32))) 21 ((l1 + (2 : Int32))).toNatClampNeg (((gf (pf ρ 16 (x4).toNatClampNeg ((1 : Int32))) 21 ((l1 + (2 : Int32))).toNatClampNeg) - (1 : Int32)))) 21 ((l1 + (3 : Int32))).toNatClampNeg) + (1 : Int32)))) x4 ((2 : Int32)) (((-l2)).toInt64)) (fun u7 =>
    some (u7))) (fun u6 =>
    Option.bind (fR_ruleOf (pf u6 13 (x4).toNatClampNeg (((gf u6 13 (x4).toNatClampNeg) + (1 : Int32)))) ((2 : Int32)) ((gz (pf u6 13 (x4).toNatClampNeg (((gf u6 13 (x4).toNatClampNeg) + (1 : Int32)))) 20))) (fun u8 =>
    Option.bind (fR_ruleOf (pf u6 13 (x4).toNatClampNeg (((gf u6 13 (x4).toNatClampNeg) + (1 : Int32)))) ((7 : Int32)) ((gz (pf u6 13 (x4).toNatClampNeg (((gf u6 13 (x4).toNatClampNeg) + (1 : Int32)))) 20))) (fun u9 =>
    if u8 ≤ 0 then
    some ((x3 + (1 : Int32)), pf u6 13 (x4).toNatClampNeg (((gf u6 13 (x4).toNatClampNeg) + (1 : Int32))))
    else
    if u8 = 0 then none else
    if ((gf (pf u6 13 (x4).toNatClampNeg (((gf u6 13 (x4).toNatClampNeg) + (1 : Int32)))) 13 (x4).toNatClampNeg) - (gf (pf u6 13 (x4).toNatClampNeg (((gf u6 13 (x4).toNatClampNeg) + (1 : Int32)))) 13 (x4).toNatClampNeg) / u8 * u8) = 0 then
    if ((u9 * l2) / (100 : Int32)) ≤ 0 then
    some ((x3 + (1 : Int32)), pf u6 13 (x4).toNatClampNeg (((gf u6 13 (x4).toNatClampNeg) + (1 : Int32))))
    else
    Option.bind (fR_enter (pf u6 13 (x4).toNatClampNeg (((gf u6 13 (x4).toNatClampNeg) + (1 : Int32)))) x4 ((5 : Int32)) ((((u9 * l2) / (100 : Int32))).toInt64)) (fun u11 =>
    some ((x3 + (1 : Int32)), u11))
    else
    some ((x3 + (1 : Int32)), pf u6 13 (x4).toNatClampNeg (((gf u6 13 (x4).toNatClampNeg) + (1 : Int32)))))))
def rhoA (ρ : SR) (i : Nat) (u : Int32) : SR := pf (pf (pf ρ 16 i 0) 17 i 0) 18 i (vp_nar .boolean u)
theorem sendAll_step (l1 l2 : Int32) (n : Nat) (x3 x4 : Int32) (ρ : SR) : fR_sendAll_L20 l1 l2 (n + 1) x3 x4 ρ = (if gz ρ 19 ≤ x4 then some (x3, ρ) else if x4 < 0 ∨ 40 ≤ x4.toNatClampNeg then none else
    Option.bind (if gf ρ 15 x4.toNatClampNeg ≤ 0 then some (0 : Int32) else some 1) (fun u2 =>
    Option.bind (if gf ρ 12 x4.toNatClampNeg = 0 then (if gf ρ 15 x4.toNatClampNeg ≤ 0 then sndR l1 l2 x3 x4 (rhoA ρ x4.toNatClampNeg u2) else Option.bind (fR_ruleOf (rhoA ρ x4.toNatClampNeg u2) 0 (gz (rhoA ρ x4.toNatClampNeg u2) 20)) (fun u13 => if u13 < gf ρ 15 x4.toNatClampNeg then sndR l1 l2 x3 x4 (rhoA ρ x4.toNatClampNeg u2) else some (x3, rhoA ρ x4.toNatClampNeg u2))) else some (x3, rhoA ρ x4.toNatClampNeg u2)) (fun u3 =>
    fR_sendAll_L20 l1 l2 n u3.1 (x4 + 1) u3.2))) := by
  rw [fR_sendAll_L20]
  rfl
theorem inForce_loop_congr {σ σ' : SC} (hz : xz σ' = xz σ) (hf : xf σ' = xf σ) (l1 l2 : Int32) : ∀ (n : Nat) (a b c : Int32), fC_Rb_inForce_L30 σ' l1 l2 n a b c = fC_Rb_inForce_L30 σ l1 l2 n a b c
  | 0, _, _, _ => rfl
  | n + 1, a, b, c => by
    rw [fC_Rb_inForce_L30, fC_Rb_inForce_L30, hz, hf]
    simp only [inForce_loop_congr hz hf l1 l2 n]
theorem inForceNow_congr {σ σ' : SC} (hz : xz σ' = xz σ) (hf : xf σ' = xf σ) (a : Int32) : fC_Cl_inForceNow σ' a = fC_Cl_inForceNow σ a := by
  unfold fC_Cl_inForceNow fC_Rb_inForce
  rw [hz]
  simp only [inForce_loop_congr hz hf]
theorem rule_fix {c k : Nat} {σ σ0 : SC} {ρ : SR} {x : Int32} {j : Nat} (h : RelC c k σ ρ) (hj : j ≤ 7) (hz : xz σ = xz σ0) (hf : xf σ = xf σ0) (e : fC_Cl_inForceNow σ0 (nI j) = some x) : fR_ruleOf ρ (nI j) (gz ρ 20) = some x := by
  obtain ⟨v, -, e1, e2⟩ := inForceNow_eq h hj
  rw [inForceNow_congr hz hf, e] at e1
  rw [e2, ← e1]
theorem RelC.mono {c c' k : Nat} {σ : SC} {ρ : SR} (h : RelC c k σ ρ) (hc : c ≤ c') : RelC c' k σ ρ :=
  ⟨h.1, h.2.1, h.2.2.1, h.2.2.2.1, h.2.2.2.2.1, ⟨h.2.2.2.2.2.1.1, fun j hj => by
    obtain ⟨pr, st, a, b, e⟩ := h.2.2.2.2.2.1.2.1 j hj
    exact ⟨pr, st, a, by omega, e⟩, h.2.2.2.2.2.1.2.2⟩, h.2.2.2.2.2.2⟩
theorem RelC.mon {c k c' k' : Nat} {σ σ' : SC} {ρ ρ' : SR} (h : RelC c k σ ρ) (hm : RMon c' k' σ' ρ') (a1 : RTape σ ρ → RTape σ' ρ') (a2 : RRule σ ρ → RRule σ' ρ') (a3 : RFault σ ρ → RFault σ' ρ') (a4 : RHouse σ ρ → RHouse σ' ρ') (a5 : RMem σ ρ → RMem σ' ρ') (a7 : REnt σ ρ → REnt σ' ρ') (a8 : RCh σ ρ → RCh σ' ρ') (a9 : RJu σ ρ → RJu σ' ρ') : RelC c' k' σ' ρ' := ⟨a1 h.1, a2 h.2.1, a3 h.2.2.1, a4 h.2.2.2.1, a5 h.2.2.2.2.1, hm, a7 h.2.2.2.2.2.2.1, a8 h.2.2.2.2.2.2.2.1, a9 h.2.2.2.2.2.2.2.2⟩
/-- a cell of a month: neither price, printed, stock nor sent -/
theorem RelC.cell {c k : Nat} {σ : SC} {ρ : SR} (h : RelC c k σ ρ) {j q : Nat} (hj : j ≤ xn σ 3) (hq : 4 ≤ q ∧ q < 8) (v : Int32) : RelC c k (yc σ q j v) (pf ρ 21 (8 * j + q) v) :=
  h.mon ⟨h.2.2.2.2.2.1.1.cell hj hq.2 v (fun e => by omega), h.2.2.2.2.2.1.2.1.cell hq.2 v (by omega) (by omega), h.2.2.2.2.2.1.2.2.cell hq.2 v (by omega)⟩ id id id id id id id id
/-- the stock of a month -/
theorem RelC.stock {c c' k : Nat} {σ : SC} {ρ : SR} (h : RelC c k σ ρ) (hc : c ≤ c') {j : Nat} (hj : j ≤ xn σ 3) {v : Int32} (hv : ∀ pr st : Nat, pr ≤ 5000 → st ≤ pr + 40 * (xn σ 3 - j) + c → gf ρ 21 (8 * j + 1) = nI pr → gf ρ 21 (8 * j + 2) = nI st → ∃ st' : Nat, v = nI st' ∧ st' ≤ pr + 40 * (xn σ 3 - j) + c') : RelC c' k (yc σ 2 j v) (pf ρ 21 (8 * j + 2) v) :=
  h.mon ⟨h.2.2.2.2.2.1.1.cell hj (by omega) v (fun e => by omega), h.2.2.2.2.2.1.2.1.stock hc hv, h.2.2.2.2.2.1.2.2.cell (by omega) v (by omega)⟩ id id id id id id id id
/-- how many were sent in the month that is -/
theorem RelC.sent {c k : Nat} {σ : SC} {ρ : SR} (h : RelC c k σ ρ) (x : Nat) : RelC c x (yc σ 3 (xn σ 3) (nI x)) (pf ρ 21 (8 * xn σ 3 + 3) (nI x)) :=
  h.mon ⟨h.2.2.2.2.2.1.1.cell (Nat.le_refl _) (by omega) _ (fun e => by omega), h.2.2.2.2.2.1.2.1.cell (by omega) _ (by omega) (by omega), by
    show gf (pf ρ 21 (8 * xn σ 3 + 3) (nI x)) 21 (8 * xn σ 3 + 3) = nI x
    rw [gfpf_eq, pk_us]⟩ id id id id id id id id
theorem l0 : (nI 0).toInt64 = 0 := by decide
theorem ln0 : (-nI 0).toInt64 = 0 := by decide
/-- one entry, if it is of something -/
theorem wr_both {c k : Nat} {σ : SC} {ρ : SR} (h : RelC c k σ ρ) {i : Nat} (hi : i < xn σ 0) (hn : xn σ 2 < 900) (s : Int32) {a : Int64} (ha : a ≠ 0) : fC_Cl_write σ i s a = some (wrC σ i s a) ∧ fR_enter ρ (nI i) s a = some (wrR ρ (nI i) s a) ∧ RelC c k (wrC σ i s a) (wrR ρ (nI i) s a) := ⟨write_eq hi hn s ha, enter_eq h.2.2.2.2.2.2.1.1 hn _ _ _, h.wr hi hn s a⟩
theorem mul_bd {a b : Nat} (ha : a ≤ 5000) (hb : b ≤ 10000) : a * b ≤ 50000000 := Nat.le_trans (Nat.mul_le_mul ha hb) (by decide)
theorem wr_neg {c k : Nat} {σ : SC} {ρ : SR} (h : RelC c k σ ρ) {i : Nat} (hi : i < xn σ 0) (hn : xn σ 2 < 900) (s : Int32) {v : Nat} (hv : v ≤ 50000000) : ∃ σ' ρ', fC_Cl_write σ i s (-nI v).toInt64 = some σ' ∧ (if (nI v : Int32) ≤ 0 then some ρ else Option.bind (fR_enter ρ (nI i) s (-nI v).toInt64) (fun u => some u)) = some ρ' ∧ RelC c k σ' ρ' ∧ xn σ' 0 = xn σ 0 ∧ xn σ' 3 = xn σ 3 ∧ xn σ' 2 ≤ xn σ 2 + 1 ∧ xz σ' = xz σ ∧ xf σ' = xf σ ∧ gf ρ' 21 = gf ρ 21 := by
  by_cases cf : v = 0
  · subst cf
    rw [ln0, write_0, if_pos (by decide)]
    exact ⟨σ, ρ, rfl, rfl, h, rfl, rfl, Nat.le_succ _, rfl, rfl, rfl⟩
  · obtain ⟨v1, v2, v3⟩ := wr_both h hi hn s (a := (-nI v).toInt64) (ln_ne0 (by omega) (by omega))
    rw [v1, v2, if_neg (nI_nle (by omega) (by omega)), bd_s]
    exact ⟨_, _, rfl, rfl, v3, rfl, rfl, Nat.le_refl _, rfl, rfl, gfwr (by decide)⟩
/-! taking back -/

theorem tb_loop {σ0 : SC} {m p lt fi : Nat} (hp : p ≤ 5000) (hlt : lt ≤ 10000) (hfi : p * lt / 100 = fi) (hfb : fi ≤ 500000) (hr : fC_Cl_inForceNow σ0 (nI 1) = some (nI lt)) : ∀ (f i : Nat) (σ : SC) (ρ : SR), i ≤ xn σ 0 → xn σ 0 - i < f → RelC i 0 σ ρ → xn σ 3 = m + 1 → xn σ 2 ≤ 700 + 2 * i → xz σ = xz σ0 → xf σ = xf σ0 → gf ρ 21 (8 * m) = nI p →
    ∃ σ' ρ', fC_Cl_takeBackRefused_L28 m (nI fi) f (nI i) σ = some σ' ∧ fR_takeBack_L12 (nI (8 * m)) f (nI i) ρ = some ρ' ∧ RelC 40 0 σ' ρ' ∧ xn σ' 3 = m + 1 ∧ xn σ' 2 ≤ 780 ∧ xz σ' = xz σ0 ∧ xf σ' = xf σ0 := by
  intro f
  induction f with
  | zero => intro i σ ρ _ q; omega
  | succ f ih =>
    intro i σ ρ hi hf h hm h2 hz hx hg
    obtain ⟨m1, m2, m3⟩ := h.2.2.2.2.1
    have hMo := h.2.2.2.2.2.1.1
    have h60 := hMo.2.2.1
    rw [fC_Cl_takeBackRefused_L28, fR_takeBack_L12, m1]
    by_cases c : i = xn σ 0
    · rw [← c, if_pos (nI_le (Nat.le_refl _) (by omega)), if_pos (nI_le (Nat.le_refl _) (by omega))]
      exact ⟨σ, ρ, rfl, rfl, h.mono (by omega), hm, by omega, hz, hx⟩
    · have hlt' : i < xn σ 0 := by omega
      rw [if_neg (nI_ge hlt' (by omega)), if_neg (nI_ge hlt' (by omega)), if_neg (ix_ok hlt' (by omega)), if_neg (ix_ok (n := 40) (by omega) (by omega)), nI_clamp (by omega), nI_1]
      have q := m3 i hlt'
      have e10 : xm σ 10 i = if gf ρ 16 i = 0 then 0 else gf ρ 18 i := q.2.2.2.2.2.2.2.2.2.1
      have skip := ih (i + 1) σ ρ (by omega) (by omega) (h.mono (by omega)) hm (by omega) hz hx hg
      rw [e10]
      by_cases c1 : gf ρ 16 i = 0
      · rw [if_pos c1, if_pos c1, if_pos rfl, bd_s, bd_s]; exact skip
      · rw [if_neg c1, if_neg c1]
        by_cases c2 : gf ρ 18 i = 0
        · rw [if_pos c2, if_pos c2, bd_s, bd_s]; exact skip
        · rw [if_neg c2, if_neg c2, if_neg (show ¬ xn σ 1 ≤ m by rw [hMo.2.2.2.1]; omega)]
          unfold fC_Co_putBack
          rw [if_neg (show ¬ xn σ 1 ≤ m by rw [hMo.2.2.2.1]; omega), bd_s, a8_2, a8_4, if_neg (cell_ix (by omega) (by omega)), if_neg (cell_ix (by omega) (by omega)), if_neg (cell_ix0 (by omega)), nI_clamp (n := 8 * m + 2) (by omega), nI_clamp (n := 8 * m + 4) (by omega), nI_clamp (n := 8 * m) (by omega)]
          have x2 : xc σ 2 m = gf ρ 21 (8 * m + 2) := hMo.2.2.2.2.1 m 2 (by omega) (by omega)
          have x4 : xc σ 4 m = gf ρ 21 (8 * m + 4) := hMo.2.2.2.2.1 m 4 (by omega) (by omega)
          have x0 : xc σ 0 m = nI p := (hMo.2.2.2.2.1 m 0 (by omega) (by omega)).trans hg
          have hS : RelC (i + 1) 0 (yc σ 2 m (xc σ 2 m + 1)) (pf ρ 21 (8 * m + 2) (gf ρ 21 (8 * m + 2) + 1)) := by
            rw [x2]
            exact h.stock (c' := i + 1) (by omega) (j := m) (by omega) (fun pr st l1 l2 g1 g2 => ⟨st + 1, by rw [g2, nI_1], by omega⟩)
          have y4 : xc (yc σ 2 m (xc σ 2 m + 1)) 4 m = gf (pf ρ 21 (8 * m + 2) (gf ρ 21 (8 * m + 2) + 1)) 21 (8 * m + 4) := by
            rw [gfpf_eq, pk_un (by omega)]; exact x4
          have hS2 : RelC (i + 1) 0 (yc (yc σ 2 m (xc σ 2 m + 1)) 4 m (xc (yc σ 2 m (xc σ 2 m + 1)) 4 m + 1)) (pf (pf ρ 21 (8 * m + 2) (gf ρ 21 (8 * m + 2) + 1)) 21 (8 * m + 4) (gf (pf ρ 21 (8 * m + 2) (gf ρ 21 (8 * m + 2) + 1)) 21 (8 * m + 4) + 1)) := by
            rw [y4]
            exact hS.cell (j := m) (q := 4) (by show m ≤ xn σ 3; omega) (by omega) _
          have z0 : xc (yc (yc σ 2 m (xc σ 2 m + 1)) 4 m (xc (yc σ 2 m (xc σ 2 m + 1)) 4 m + 1)) 0 m = nI p := x0
          have z0' : gf (pf (pf ρ 21 (8 * m + 2) (gf ρ 21 (8 * m + 2) + 1)) 21 (8 * m + 4) (gf (pf ρ 21 (8 * m + 2) (gf ρ 21 (8 * m + 2) + 1)) 21 (8 * m + 4) + 1)) 21 (8 * m) = nI p := by
            rw [gfpf_eq, pk_un (by omega), gfpf_eq, pk_un (by omega)]; exact hg
          have n1 : xn (yc (yc σ 2 m (xc σ 2 m + 1)) 4 m (xc (yc σ 2 m (xc σ 2 m + 1)) 4 m + 1)) = xn σ := rfl
          have n2 : xz (yc (yc σ 2 m (xc σ 2 m + 1)) 4 m (xc (yc σ 2 m (xc σ 2 m + 1)) 4 m + 1)) = xz σ := rfl
          have n3 : xf (yc (yc σ 2 m (xc σ 2 m + 1)) 4 m (xc (yc σ 2 m (xc σ 2 m + 1)) 4 m + 1)) = xf σ := rfl
          rw [z0, z0']
          generalize yc (yc σ 2 m (xc σ 2 m + 1)) 4 m (xc (yc σ 2 m (xc σ 2 m + 1)) 4 m + 1) = σ1 at *
          generalize pf (pf ρ 21 (8 * m + 2) (gf ρ 21 (8 * m + 2) + 1)) 21 (8 * m + 4) (gf (pf ρ 21 (8 * m + 2) (gf ρ 21 (8 * m + 2) + 1)) 21 (8 * m + 4) + 1) = ρ1 at *
          rw [if_neg (show ¬ xn σ1 1 ≤ m by rw [n1, hMo.2.2.2.1]; omega)]
          have hi1 : i < xn σ1 0 := by rw [n1]; exact hlt'
          by_cases cp : p = 0
          · subst cp
            have f0 : fi = 0 := by rw [← hfi, Nat.zero_mul, Nat.zero_div]
            rw [if_pos nI_0, l0, write_0, bd_s, f0, ln0, write_0, bd_s, bd_s, bd_s]
            have r := ih (i + 1) σ1 ρ1 (by rw [n1]; omega) (by rw [n1]; omega) hS2 (by rw [n1]; exact hm) (by rw [n1]; omega) (n2.trans hz) (n3.trans hx) z0'
            rw [f0] at r
            exact r
          · obtain ⟨w1, w2, w3⟩ := wr_both hS2 hi1 (by rw [n1]; omega) (3 : Int32) (a := (nI p).toInt64) (l_ne0 (by omega) (by omega))
            rw [if_neg (nI_ne0 (by omega) (by omega)), w1, bd_s, w2, bd_s]
            have k1 : xn (wrC σ1 i 3 (nI p).toInt64) 2 = xn σ 2 + 1 := by show xn σ1 2 + 1 = _; rw [n1]
            have k0 : xn (wrC σ1 i 3 (nI p).toInt64) 0 = xn σ 0 := by show xn σ1 0 = _; rw [n1]
            have k3 : xn (wrC σ1 i 3 (nI p).toInt64) 3 = xn σ 3 := by show xn σ1 3 = _; rw [n1]
            have kz : xz (wrC σ1 i 3 (nI p).toInt64) = xz σ0 := (show xz (wrC σ1 i 3 (nI p).toInt64) = xz σ1 from rfl).trans (n2.trans hz)
            have kx : xf (wrC σ1 i 3 (nI p).toInt64) = xf σ0 := (show xf (wrC σ1 i 3 (nI p).toInt64) = xf σ1 from rfl).trans (n3.trans hx)
            have kg : gf (wrR ρ1 (nI i) 3 (nI p).toInt64) 21 (8 * m) = nI p := by rw [gfwr (by decide)]; exact z0'
            generalize wrC σ1 i 3 (nI p).toInt64 = σ2 at *
            generalize wrR ρ1 (nI i) 3 (nI p).toInt64 = ρ2 at *
            have hmul : p * lt ≤ 50000000 := mul_bd hp hlt
            rw [show (1 : Int32) = nI 1 from rfl, rule_fix w3 (by omega) kz kx hr, bd_s, pk_mul, show (100 : Int32) = nI 100 from rfl, pk_div (by omega) (by omega) (by omega), hfi]
            obtain ⟨σ3, ρ3, e1, e2, v3, j0, j3, j2, jz, jx, jg⟩ := wr_neg w3 (i := i) (by omega) (by omega) (4 : Int32) (v := fi) (by omega)
            rw [e1, bd_s, bd_s, e2, bd_s]
            exact ih (i + 1) σ3 ρ3 (by omega) (by omega) v3 (by omega) (by omega) (jz.trans kz) (jx.trans kx) (by rw [jg]; exact kg)
