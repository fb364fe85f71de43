/-! PURE: pay, leave, join -/
theorem RelC.mem {c k : Nat} {σ σ' : SC} {ρ ρ' : SR} (h : RelC c k σ ρ) (hm : RMem σ' ρ') (a1 : RTape σ' ρ') (a2 : RRule σ' ρ') (a3 : RFault σ' ρ') (a4 : RHouse σ' ρ') (a6 : RMon c k σ' ρ') (a7 : REnt σ' ρ') (a8 : RCh σ' ρ') (a9 : RJu σ' ρ') : RelC c k σ' ρ' := ⟨a1, a2, a3, a4, hm, a6, a7, a8, a9⟩
theorem room_eq {n : Nat} (h : n ≤ 900) : (900 : Int32) - nI n = nI (900 - n) := pk_sub (a := 900) h
theorem l_ne0 {v : Nat} (h0 : 0 < v) (h : v < 2 ^ 31) : (nI v).toInt64 ≠ 0 := fun e => by
  have := congrArg Int64.toInt e
  rw [Int32.toInt_toInt64, nI_toInt h, show (0 : Int64).toInt = 0 by decide] at this
  omega
theorem ln_ne0 {v : Nat} (h0 : 0 < v) (h : v < 2 ^ 31) : (-nI v).toInt64 ≠ 0 := fun e => by
  have := congrArg Int64.toInt e
  rw [Int32.toInt_toInt64, show (0 : Int64).toInt = 0 by decide] at this
  have e2 : -nI v = 0 := Int32.toInt_inj.mp (by rw [this, tI_0])
  have e3 : nI v = 0 := by rw [← Int32.neg_neg (a := nI v), e2]; decide
  exact nI_ne0 h0 h e3
/-- whether a member owes: both say the same -/
theorem owes_eq {c k : Nat} {σ : SC} {ρ : SR} (h : RelC c k σ ρ) {i : Nat} (hi : i < xn σ 0) : ∃ (v : Nat) (u : Int32), v ≤ 10000 ∧ fC_Cl_inForceNow σ 4 = some (nI v) ∧ fC_Me_owesMoreThan σ i (nI v) = some u ∧ fR_owes ρ (nI i) = some u ∧ (u = 0 ∨ u = 1) := by
  obtain ⟨v, hv, e1, e2⟩ := inForceNow_eq h (j := 4) (by omega)
  unfold fC_Me_owesMoreThan fR_owes
  rw [bal_eq h.2.2.2.2.2.2.1 hi, bd_s, show (4 : Int32) = nI 4 from rfl, e2, bd_s]
  by_cases q : 0 ≤ lg_cmp (xb σ i) (-nI v).toInt64
  · refine ⟨v, 0, hv, e1, ?_, if_pos q, Or.inl rfl⟩
    rw [if_neg (Nat.not_le.mpr hi), if_pos q]
  · refine ⟨v, 1, hv, e1, ?_, if_neg q, Or.inr rfl⟩
    rw [if_neg (Nat.not_le.mpr hi), if_neg q]
theorem RelC.owing {c k : Nat} {σ : SC} {ρ : SR} (h : RelC c k σ ρ) (i : Nat) (v : Int32) : RelC c k (ym σ 5 i v) (pf ρ 14 i v) := by
  refine ⟨h.1, h.2.1, h.2.2.1, h.2.2.2.1, ?_, h.2.2.2.2.2.1, h.2.2.2.2.2.2.1, h.2.2.2.2.2.2.2.1, h.2.2.2.2.2.2.2.2⟩
  refine h.2.2.2.2.1.at (i := i) rfl rfl (fun j e q => ?_) (fun q => ?_)
  · rw [colm_ne e, colg_ne e]; exact q
  · rw [colm_eq, colg_eq]
    exact ⟨q.1, q.2.1, q.2.2.1, q.2.2.2.1, q.2.2.2.2.1, rfl, q.2.2.2.2.2.2⟩
theorem RelC.state {c k : Nat} {σ : SC} {ρ : SR} (h : RelC c k σ ρ) (i : Nat) {v : Int32} (hv : v = 0 ∨ v = 1 ∨ v = 2) : RelC c k (ym σ 3 i v) (pf ρ 12 i v) := by
  refine ⟨h.1, h.2.1, h.2.2.1, h.2.2.2.1, ?_, h.2.2.2.2.2.1, h.2.2.2.2.2.2.1, h.2.2.2.2.2.2.2.1, h.2.2.2.2.2.2.2.2⟩
  refine h.2.2.2.2.1.at (i := i) rfl rfl (fun j e q => ?_) (fun q => ?_)
  · rw [colm_ne e, colg_ne e]; exact q
  · rw [colm_eq, colg_eq]
    exact ⟨q.1, q.2.1, q.2.2.1, rfl, q.2.2.2.2.1, q.2.2.2.2.2.1, q.2.2.2.2.2.2.1, q.2.2.2.2.2.2.2.1, q.2.2.2.2.2.2.2.2.1, q.2.2.2.2.2.2.2.2.2.1, q.2.2.2.2.2.2.2.2.2.2.1, q.2.2.2.2.2.2.2.2.2.2.2.1, q.2.2.2.2.2.2.2.2.2.2.2.2.1, q.2.2.2.2.2.2.2.2.2.2.2.2.2.1, hv⟩
theorem owesNoLonger_eq {c k : Nat} {σ : SC} {ρ : SR} (h : RelC c k σ ρ) {i : Nat} (hi : i < xn σ 0) : ∃ σ' ρ', fC_Me_owesNoLonger σ i = some σ' ∧ (if gf (pf ρ 14 i 0) 12 i = 1 then some (pf (pf ρ 14 i 0) 12 i 0) else some (pf ρ 14 i 0)) = some ρ' ∧ RelC c k σ' ρ' ∧ (xn σ' = xn σ ∧ xb σ' = xb σ ∧ xz σ' = xz σ ∧ xf σ' = xf σ ∧ xm σ' 5 i = 0 ∧ (xm σ' 3 i = if xm σ 3 i = 1 then 0 else xm σ 3 i) ∧ xc σ' = xc σ) := by
  have es : xm (ym σ 5 i 0) 3 i = gf (pf ρ 14 i 0) 12 i := (h.2.2.2.2.1.2.2 i hi).2.2.2.1
  have es' : xm (ym σ 5 i 0) 3 i = xm σ 3 i := rfl
  unfold fC_Me_owesNoLonger
  rw [if_neg (Nat.not_le.mpr hi), ← es]
  by_cases q : xm (ym σ 5 i 0) 3 i = 1
  · rw [if_pos q, if_pos q]
    refine ⟨_, _, rfl, rfl, (h.owing i 0).state i (Or.inl rfl), rfl, rfl, rfl, rfl, ?_, ?_, rfl⟩
    · show xm (ym σ 5 i 0) 5 i = 0
      rw [xmym_eq, pk_us]
    · rw [xmym_eq, pk_us, ← es', if_pos q]
  · rw [if_neg q, if_neg q]
    refine ⟨_, _, rfl, rfl, h.owing i 0, rfl, rfl, rfl, rfl, ?_, ?_, rfl⟩
    · rw [xmym_eq, pk_us]
    · rw [← es', if_neg q]
theorem eq_pay {σ : SC} {ρ : SR} (h0 : Rel σ ρ) (a b : Int32) : ∃ r σ' ρ', fC_B_pay σ a b = some (r, σ') ∧ fR_pay ρ a b = some (r, ρ') ∧ Rel σ' ρ' := by
  have h : RelC 0 0 σ (pz ρ 31 0) := h0.thrown 0
  unfold fC_B_pay fR_pay
  generalize pz ρ 31 0 = ρ1 at *
  rcases findMember_cases h.2.2.2.2.1 a with ⟨e1, e2⟩ | ⟨i, hi, hi40, rfl, e1, e2⟩
  · rw [e1, e2, bd_s, bd_s, if_pos rfl]
    exact ⟨_, _, _, rfl, rfl, h⟩
  · rw [e1, e2, bd_s, bd_s, if_neg one_ne, fR_in_eq, bd_s]
    show ∃ r σ' ρ', Option.bind (Option.bind (fC_isWithin b 1 100000) _) _ = _ ∧ _
    rw [fC_isWithin_eq, bd_s]
    by_cases c1 : (1 : Int32) ≤ b ∧ b ≤ 100000
    · rw [wi_t c1, if_neg one_ne, if_neg one_ne]
      have hE := h.2.2.2.2.2.2.1
      have hn := hE.2.1
      unfold fC_Le_roomLeft
      rw [bd_s, room_eq hn, hE.1, show (1 : Int32) = nI 1 from rfl, show (900 : Int32) = nI 900 from rfl]
      by_cases c2 : xn σ 2 = 900
      · rw [c2, if_neg (nI_ge (by omega) (by omega)), if_pos rfl]
        exact ⟨_, _, _, rfl, rfl, h⟩
      · rw [if_pos (nI_le (by omega) (by omega)), if_neg (fun q => c2 ((nI_eq (by omega) (by omega)).mp q))]
        obtain ⟨v, hv, rfl⟩ := wi_nat (n := 100000) (hi := 100000) (by decide) ⟨by have := c1.1; rw [iLe] at this ⊢; rw [tI_1] at this; rw [tI_0]; omega, c1.2⟩
        have hv0 : 0 < v := by
          have := c1.1
          rw [iLe, tI_1, nI_toInt (by omega)] at this
          omega
        have hs := h.wr hi (by omega) (nI 1) (nI v).toInt64
        have hi1 : i < xn (wrC σ i (nI 1) (nI v).toInt64) 0 := hi
        rw [write_eq hi (by omega) _ (l_ne0 hv0 (by omega)), bd_s, enter_eq hE.1 (by omega), bd_s]
        generalize wrC σ i (nI 1) (nI v).toInt64 = σ1 at *
        generalize wrR ρ1 (nI i) (nI 1) (nI v).toInt64 = ρ2 at *
        obtain ⟨w, u, hw, f1, f2, f3, f4⟩ := owes_eq hs hi1
        rw [f1, bd_s, if_neg (Nat.not_le.mpr hi1), f2, bd_s, f3, bd_s]
        by_cases c3 : u = 0
        · obtain ⟨σ2, ρ3, g1, g2, g3, g4, g5, -⟩ := owesNoLonger_eq hs hi1
          rw [if_pos c3, if_pos c3, g1, bd_s, if_neg (ix_ok hi40 (by omega)), nI_clamp (by omega), bd_s]
          show ∃ r σ' ρ', _ ∧ Option.bind (if gf (pf ρ2 14 i 0) 12 i = nI 1 then _ else _) _ = _ ∧ _
          rw [show nI 1 = (1 : Int32) from rfl, g2, bd_s]
          have hi2 : i < xn σ2 0 := by rw [g4]; exact hi1
          rw [if_neg (Nat.not_le.mpr hi2), bal_eq g3.2.2.2.2.2.2.1 hi2, bd_s, bd_s]
          exact ⟨_, _, _, rfl, rfl, g3⟩
        · rw [if_neg c3, if_neg c3, bd_s, bd_s, if_neg (Nat.not_le.mpr hi1), bal_eq hs.2.2.2.2.2.2.1 hi1, bd_s, bd_s]
          exact ⟨_, _, _, rfl, rfl, hs⟩
    · rw [wi_f c1, if_pos rfl, if_pos rfl]
      exact ⟨_, _, _, rfl, rfl, h⟩
theorem neg_ne0 {b : Int64} (h : b ≠ 0) : -b ≠ 0 := fun e => h (by rw [← Int64.neg_neg (a := b), e]; decide)
theorem eq_leave {σ : SC} {ρ : SR} (h0 : Rel σ ρ) (a : Int32) : ∃ r σ' ρ', fC_B_leave σ a = some (r, σ') ∧ fR_leave ρ a = some (r, ρ') ∧ Rel σ' ρ' := by
  have h : RelC 0 0 σ (pz ρ 31 0) := h0.thrown 0
  unfold fC_B_leave fR_leave
  generalize pz ρ 31 0 = ρ1 at *
  rcases findMember_cases h.2.2.2.2.1 a with ⟨e1, e2⟩ | ⟨i, hi, hi40, rfl, e1, e2⟩
  · rw [e1, e2, bd_s, bd_s, if_pos rfl]
    exact ⟨_, _, _, rfl, rfl, h⟩
  · rw [e1, e2, bd_s, bd_s, if_neg one_ne, if_neg (ix_ok hi40 (by omega)), nI_clamp (by omega)]
    have hE := h.2.2.2.2.2.2.1
    have hn := hE.2.1
    have es : xm σ 3 i = gf ρ1 12 i := (h.2.2.2.2.1.2.2 i hi).2.2.2.1
    show ∃ r σ' ρ', Option.bind (if xn σ 0 ≤ i then none else _) _ = _ ∧ _
    rw [if_neg (Nat.not_le.mpr hi), es, bal_eq hE hi, bd_s]
    by_cases c1 : gf ρ1 12 i = 2
    · rw [if_pos c1, if_pos c1]
      exact ⟨_, _, _, rfl, rfl, h⟩
    · rw [if_neg c1, if_neg c1]
      have hs := h.state i (v := 2) (Or.inr (Or.inr rfl))
      by_cases c2 : lg_cmp (xb σ i) 0 ≤ 0
      · have c3 : ¬ 0 < lg_cmp (xb σ i) 0 := iNlt.mpr c2
        rw [if_pos c2, if_pos c2, if_neg c3, bd_s, if_pos (by decide), show (-0 : Int64) = 0 from by decide, write_0, bd_s]
        exact ⟨_, _, _, rfl, rfl, hs⟩
      · have c3 : 0 < lg_cmp (xb σ i) 0 := iNle.mp c2
        have hne : xb σ i ≠ 0 := fun e => by rw [e] at c2; exact c2 (by decide)
        unfold fC_Le_roomLeft
        rw [if_neg c2, if_neg c2, if_pos c3, bd_s, if_neg c2, bd_s, room_eq hn, hE.1, show (900 : Int32) = nI 900 from rfl]
        by_cases c4 : xn σ 2 = 900
        · rw [c4, if_neg (show ¬ (1 : Int32) ≤ nI (900 - 900) from nI_ge (a := 900 - 900) (b := 1) (by omega) (by omega)), if_pos rfl]
          exact ⟨_, _, _, rfl, rfl, h⟩
        · rw [if_pos (show (1 : Int32) ≤ nI (900 - xn σ 2) from nI_le (a := 1) (by omega) (by omega)), if_neg (fun q => c4 ((nI_eq (by omega) (by omega)).mp q))]
          have hi1 : i < xn (ym σ 3 i 2) 0 := hi
          have hn1 : xn (ym σ 3 i 2) 2 < 900 := by show xn σ 2 < 900; omega
          rw [write_eq hi1 hn1 _ (neg_ne0 hne), bd_s, enter_eq (ρ := pf ρ1 12 i 2) (n := xn σ 2) hE.1 (by omega), bd_s]
          exact ⟨_, _, _, rfl, rfl, hs.wr hi1 hn1 _ _⟩
theorem sumE_zero {g : Nat → Int64} {p : Nat → Bool} : ∀ {n : Nat}, (∀ e, e < n → p e = false) → sumE g p n = 0
  | 0, _ => rfl
  | n + 1, h => by
    rw [sumE, if_neg (by rw [h n (by omega)]; decide)]
    exact sumE_zero (fun e he => h e (by omega))
/-- the reference's row of a new member -/
def jnR (ρ : SR) (n : Nat) (a b : Int32) : SR := pz (pf (pf (pf (pf (pf (pf (pf (pf (pf ρ 10 n a) 11 n b) 12 n 0) 13 n 0) 14 n 0) 15 n 0) 16 n 0) 17 n 0) 18 n 0) 19 (nI (n + 1))
theorem colM_ne {σ : SC} {f : Nat → Int32} {v : Int64} {j : Nat} (e : j ≠ xn σ 0) : (fun k => xm (addM σ f v) k j) = fun k => xm σ k j := funext fun k => pk_un e
theorem colM_eq {σ : SC} {f : Nat → Int32} {v : Int64} : (fun k => xm (addM σ f v) k (xn σ 0)) = f := funext fun k => pk_us
theorem RelC.join {c k : Nat} {σ : SC} {ρ : SR} (h : RelC c k σ ρ) {a b : Int32} (hn : xn σ 0 < 40) (hb : ∃ v : Nat, v ≤ 9 ∧ b = nI v) : RelC c k (addM σ (mf (xn σ 0) a b) 0) (jnR ρ (xn σ 0) a b) := by
  obtain ⟨m1, m2, m3⟩ := h.2.2.2.2.1
  obtain ⟨g1, g2, g3, g4⟩ := h.2.2.2.2.2.2.1
  refine ⟨h.1, h.2.1, h.2.2.1, h.2.2.2.1, ⟨rfl, ?_, fun j hj => ?_⟩, h.2.2.2.2.2.1, ⟨g1, g2, fun e he => ?_, fun j hj => ?_⟩, h.2.2.2.2.2.2.2.1, h.2.2.2.2.2.2.2.2⟩
  · show xn σ 0 + 1 ≤ 40
    omega
  · have hj' : j < xn σ 0 + 1 := hj
    by_cases e : j = xn σ 0
    · subst e
      rw [colM_eq]
      unfold jnR
      show RM1 _ _ (fun k => gf (pf (pf (pf (pf (pf (pf (pf (pf (pf ρ 10 (xn σ 0) a) 11 (xn σ 0) b) 12 (xn σ 0) 0) 13 (xn σ 0) 0) 14 (xn σ 0) 0) 15 (xn σ 0) 0) 16 (xn σ 0) 0) 17 (xn σ 0) 0) 18 (xn σ 0) 0) k (xn σ 0))
      simp only [colg_eq]
      exact ⟨rfl, rfl, rfl, rfl, rfl, rfl, rfl, rfl, rfl, rfl, Or.inl rfl, Or.inl rfl, Or.inl rfl, hb, Or.inl rfl⟩
    · rw [colM_ne e]
      unfold jnR
      show RM1 _ _ (fun k => gf (pf (pf (pf (pf (pf (pf (pf (pf (pf ρ 10 (xn σ 0) a) 11 (xn σ 0) b) 12 (xn σ 0) 0) 13 (xn σ 0) 0) 14 (xn σ 0) 0) 15 (xn σ 0) 0) 16 (xn σ 0) 0) 17 (xn σ 0) 0) 18 (xn σ 0) 0) k j)
      simp only [colg_ne e]
      exact m3 j (by omega)
  · obtain ⟨q1, q2⟩ := g3 e he
    exact ⟨Nat.lt_succ_of_lt q1, q2⟩
  · have hj' : j < xn σ 0 + 1 := hj
    show vp_updL (xb σ) (xn σ 0) 0 j = sumE (gg ρ) (pE ρ j) (xn σ 2)
    by_cases e : j = xn σ 0
    · rw [e, pk_uLs]
      refine (sumE_zero (fun x hx => decide_eq_false (fun q => ?_))).symm
      obtain ⟨q1, q2, -⟩ := g3 x hx
      have := (q2.symm.trans q.1)
      have := (nI_eq (by omega) (by omega)).mp this
      omega
    · rw [pk_uLn e]
      exact g4 j (by omega)
theorem jn_eq {ρ : SR} {n : Nat} (e : gz ρ 19 = nI n) (hn : n < 40) (a b : Int32) : pz (pf (pf (pf (pf (pf (pf (pf (pf (pf ρ 10 (gz ρ 19).toNatClampNeg a) 11 (gz ρ 19).toNatClampNeg b) 12 (gz ρ 19).toNatClampNeg 0) 13 (gz ρ 19).toNatClampNeg 0) 14 (gz ρ 19).toNatClampNeg 0) 15 (gz ρ 19).toNatClampNeg 0) 16 (gz ρ 19).toNatClampNeg 0) 17 (gz ρ 19).toNatClampNeg 0) 18 (gz ρ 19).toNatClampNeg 0) 19 (gz ρ 19 + 1) = jnR ρ n a b := by
  rw [e, nI_clamp (by omega), nI_1]; rfl
section JN
variable {σ : SC} {ρ : SR} {a : Int32} {w v : Nat}
theorem xm_addM {n : Nat} {f : Nat → Int32} {b : Int64} (e : n = xn σ 0) : xm (addM σ f b) 0 n = f 0 := by subst e; exact pk_us
set_option maxRecDepth 100000 in
theorem admit_pre (c1 : (0 : Int32) ≤ a ∧ a ≤ 3) (hw : w ≤ 9) (h40 : xn σ 0 < 40) (f1 : fC_Cl_inForceNow σ 3 = some (nI v)) : fC_Cl_admit σ a (nI w) = Option.bind (if xf σ 5 w = 0 then some (nI v) else some 0) (fun u4 =>
    if u4 ≤ 0 then (if 40 ≤ xn σ 0 then none else Option.bind (if u4 ≤ 0 then some (addM σ (mf (xn σ 0) a (nI w)) 0) else Option.bind (fC_Cl_write (yf (addM σ (mf (xn σ 0) a (nI w)) 0) 5 w 1) (xn σ 0) 0 u4.toInt64) (fun u8 => some u8)) (fun u7 => if xn u7 0 ≤ xn σ 0 then none else some (xm u7 0 (xn σ 0), u7)))
    else if (1 : Int32) ≤ 900 - nI (xn σ 2) then (if 40 ≤ xn σ 0 then none else Option.bind (if u4 ≤ 0 then some (addM σ (mf (xn σ 0) a (nI w)) 0) else Option.bind (fC_Cl_write (yf (addM σ (mf (xn σ 0) a (nI w)) 0) 5 w 1) (xn σ 0) 0 u4.toInt64) (fun u13 => some u13)) (fun u12 => if xn u12 0 ≤ xn σ 0 then none else some (xm u12 0 (xn σ 0), u12)))
    else some (-1, σ)) := by
  unfold fC_Cl_admit fC_Le_roomLeft
  rw [isKind_eq, bd_s, wi_t c1, if_neg one_ne, isHouse_eq, bd_s, wi_t (show (0 : Int32) ≤ nI w ∧ nI w ≤ 9 from ⟨nI_pos' (by omega), nI_le (b := 9) hw (by omega)⟩), if_neg one_ne, if_pos (show nI (xn σ 0) < (40 : Int32) from nI_lt (b := 40) h40 (by omega)), if_neg (ix_ok (n := 10) (by omega) (by omega)), nI_clamp (by omega), f1, bd_s]
  simp only [bd_s]
theorem admit_no (c1 : (0 : Int32) ≤ a ∧ a ≤ 3) (hw : w ≤ 9) (h40 : xn σ 0 < 40) (f1 : fC_Cl_inForceNow σ 3 = some (nI v)) (hg : xf σ 5 w = 0 → v = 0) : fC_Cl_admit σ a (nI w) = some (nI (xn σ 0), addM σ (mf (xn σ 0) a (nI w)) 0) := by
  rw [admit_pre c1 hw h40 f1]
  have e : (if xf σ 5 w = 0 then some (nI v) else some (0 : Int32)) = some 0 := by
    by_cases q : xf σ 5 w = 0
    · rw [if_pos q, hg q]; rfl
    · rw [if_neg q]
  rw [e, bd_s, if_pos (by decide), if_neg (by omega), if_pos (by decide), bd_s]
  refine (if_neg (show ¬ xn σ 0 + 1 ≤ xn σ 0 by omega)).trans ?_
  rw [xm_addM rfl]; rfl
theorem admit_full (c1 : (0 : Int32) ≤ a ∧ a ≤ 3) (hw : w ≤ 9) (h40 : xn σ 0 < 40) (f1 : fC_Cl_inForceNow σ 3 = some (nI v)) (hv : 0 < v ∧ v ≤ 10000) (h5 : xf σ 5 w = 0) (hn : xn σ 2 = 900) : fC_Cl_admit σ a (nI w) = some (-1, σ) := by
  rw [admit_pre c1 hw h40 f1, if_pos h5, bd_s, if_neg (nI_nle hv.1 (by omega)), hn, if_neg (by decide)]
theorem admit_gift (c1 : (0 : Int32) ≤ a ∧ a ≤ 3) (hw : w ≤ 9) (h40 : xn σ 0 < 40) (f1 : fC_Cl_inForceNow σ 3 = some (nI v)) (hv : 0 < v ∧ v ≤ 10000) (h5 : xf σ 5 w = 0) (hn : xn σ 2 < 900) : fC_Cl_admit σ a (nI w) = some (nI (xn σ 0), wrC (yf (addM σ (mf (xn σ 0) a (nI w)) 0) 5 w 1) (xn σ 0) 0 (nI v).toInt64) := by
  rw [admit_pre c1 hw h40 f1, if_pos h5, bd_s, if_neg (nI_nle hv.1 (by omega)), room_eq (by omega), if_pos (show (1 : Int32) ≤ nI (900 - xn σ 2) from nI_le (a := 1) (by omega) (by omega)), if_neg (by omega), if_neg (nI_nle hv.1 (by omega)), write_eq (σ := yf (addM σ (mf (xn σ 0) a (nI w)) 0) 5 w 1) (i := xn σ 0) (Nat.lt_succ_self _) hn _ (l_ne0 hv.1 (by omega)), bd_s, bd_s]
  refine (if_neg (show ¬ xn σ 0 + 1 ≤ xn σ 0 by omega)).trans ?_
  refine congrArg some (Prod.ext ?_ rfl)
  exact xm_addM (b := 0) (f := mf (xn σ 0) a (nI w)) rfl
set_option maxRecDepth 100000 in
theorem join_pre (c1 : (0 : Int32) ≤ a ∧ a ≤ 3) (hw : w ≤ 9) (m1 : gz (pz ρ 31 0) 19 = nI (xn σ 0)) (h40 : xn σ 0 < 40) (f2 : fR_ruleOf (pz ρ 31 0) 3 (gz (pz ρ 31 0) 20) = some (nI v)) : fR_join ρ a (nI w) = Option.bind (if (nI v : Int32) ≤ 0 then some (0 : Int32) else if gf (pz ρ 31 0) 9 w = 0 then some 1 else some 0) (fun u4 =>
    if u4 = 0 then Option.bind (if u4 = 0 then some (jnR (pz ρ 31 0) (xn σ 0) a (nI w)) else Option.bind (fR_enter (pf (jnR (pz ρ 31 0) (xn σ 0) a (nI w)) 9 w 1) (gz (pz ρ 31 0) 19) 0 (nI v).toInt64) (fun u9 => some u9)) (fun u7 => some (gz (pz ρ 31 0) 19, u7))
    else if gz (pz ρ 31 0) 27 = 900 then some (-1, pz ρ 31 0) else Option.bind (if u4 = 0 then some (jnR (pz ρ 31 0) (xn σ 0) a (nI w)) else Option.bind (fR_enter (pf (jnR (pz ρ 31 0) (xn σ 0) a (nI w)) 9 w 1) (gz (pz ρ 31 0) 19) 0 (nI v).toInt64) (fun u13 => some u13)) (fun u11 => some (gz (pz ρ 31 0) 19, u11))) := by
  unfold fR_join
  generalize pz ρ 31 0 = ρ1 at *
  have ix19 : ¬ (gz ρ1 19 < 0 ∨ 40 ≤ (gz ρ1 19).toNatClampNeg) := by rw [m1]; exact ix_ok h40 (by omega)
  have n40 : ¬ gz ρ1 19 = 40 := by rw [m1]; exact fun q => by have := (nI_eq (b := 40) (by omega) (by omega)).mp q; omega
  have ixw : ¬ (nI w < 0 ∨ 10 ≤ (nI w).toNatClampNeg) := ix_ok (by omega) (by omega)
  rw [fR_in_eq, bd_s, wi_t c1, if_neg one_ne, fR_in_eq, bd_s, wi_t (show (0 : Int32) ≤ nI w ∧ nI w ≤ 9 from ⟨nI_pos' (by omega), nI_le (b := 9) hw (by omega)⟩), if_neg one_ne, if_neg n40, f2, bd_s, ← jn_eq m1 h40 a (nI w)]
  simp only [ix19, ixw, ↓reduceIte]
  simp only [nI_clamp (show w < 2 ^ 31 by omega)]
  rfl
theorem join_no (c1 : (0 : Int32) ≤ a ∧ a ≤ 3) (hw : w ≤ 9) (m1 : gz (pz ρ 31 0) 19 = nI (xn σ 0)) (h40 : xn σ 0 < 40) (f2 : fR_ruleOf (pz ρ 31 0) 3 (gz (pz ρ 31 0) 20) = some (nI v)) (hg : gf (pz ρ 31 0) 9 w = 0 → v = 0) : fR_join ρ a (nI w) = some (nI (xn σ 0), jnR (pz ρ 31 0) (xn σ 0) a (nI w)) := by
  rw [join_pre c1 hw m1 h40 f2]
  have e : (if (nI v : Int32) ≤ 0 then some (0 : Int32) else if gf (pz ρ 31 0) 9 w = 0 then some 1 else some 0) = some 0 := by
    by_cases q : gf (pz ρ 31 0) 9 w = 0
    · rw [hg q, if_pos (by decide)]
    · rw [if_neg q]; split <;> rfl
  rw [e, bd_s, if_pos rfl, if_pos rfl, bd_s, m1]
theorem join_full (c1 : (0 : Int32) ≤ a ∧ a ≤ 3) (hw : w ≤ 9) (m1 : gz (pz ρ 31 0) 19 = nI (xn σ 0)) (h40 : xn σ 0 < 40) (f2 : fR_ruleOf (pz ρ 31 0) 3 (gz (pz ρ 31 0) 20) = some (nI v)) (hv : 0 < v ∧ v ≤ 10000) (h5 : gf (pz ρ 31 0) 9 w = 0) (hn : gz (pz ρ 31 0) 27 = 900) : fR_join ρ a (nI w) = some (-1, pz ρ 31 0) := by
  rw [join_pre c1 hw m1 h40 f2, if_neg (nI_nle hv.1 (by omega)), if_pos h5, bd_s, if_neg one_ne, if_pos hn]
theorem join_gift (c1 : (0 : Int32) ≤ a ∧ a ≤ 3) (hw : w ≤ 9) (m1 : gz (pz ρ 31 0) 19 = nI (xn σ 0)) (h40 : xn σ 0 < 40) (f2 : fR_ruleOf (pz ρ 31 0) 3 (gz (pz ρ 31 0) 20) = some (nI v)) (hv : 0 < v ∧ v ≤ 10000) (h5 : gf (pz ρ 31 0) 9 w = 0) {n : Nat} (hn : gz (pz ρ 31 0) 27 = nI n) (hn9 : n < 900) : fR_join ρ a (nI w) = some (nI (xn σ 0), wrR (pf (jnR (pz ρ 31 0) (xn σ 0) a (nI w)) 9 w 1) (nI (xn σ 0)) 0 (nI v).toInt64) := by
  have n9 : ¬ gz (pz ρ 31 0) 27 = 900 := by rw [hn]; exact fun q => by have := (nI_eq (b := 900) (by omega) (by omega)).mp q; omega
  rw [join_pre c1 hw m1 h40 f2, if_neg (nI_nle hv.1 (by omega)), if_pos h5, bd_s, if_neg one_ne, if_neg n9, if_neg one_ne, enter_eq (ρ := pf (jnR (pz ρ 31 0) (xn σ 0) a (nI w)) 9 w 1) (n := n) hn hn9, bd_s, bd_s, m1]
end JN
theorem eq_join {σ : SC} {ρ : SR} (h0 : Rel σ ρ) (a b : Int32) : ∃ r σ' ρ', fC_B_join σ a b = some (r, σ') ∧ fR_join ρ a b = some (r, ρ') ∧ Rel σ' ρ' := by
  have h : RelC 0 0 σ (pz ρ 31 0) := h0.thrown 0
  obtain ⟨m1, m2, m3⟩ := h.2.2.2.2.1
  have hE := h.2.2.2.2.2.2.1
  have hn := hE.2.1
  unfold fC_B_join
  by_cases c1 : (0 : Int32) ≤ a ∧ a ≤ 3
  · by_cases c2 : (0 : Int32) ≤ b ∧ b ≤ 9
    · obtain ⟨w, hw, rfl⟩ := wi_nat (n := 9) (by decide) c2
      by_cases c3 : xn σ 0 = 40
      · unfold fC_Cl_admit fR_join
        rw [isKind_eq, fR_in_eq, bd_s, bd_s, wi_t c1, if_neg one_ne, if_neg one_ne, isHouse_eq, fR_in_eq, bd_s, bd_s, wi_t c2, if_neg one_ne, if_neg one_ne, m1, c3, if_neg (by decide), if_pos (by decide)]
        exact ⟨-1, _, _, rfl, rfl, h⟩
      · have h40 : xn σ 0 < 40 := by omega
        obtain ⟨v, hv, f1, f2⟩ := inForceNow_eq h (j := 3) (by omega)
        have hJ := h.join (a := a) h40 ⟨w, hw, rfl⟩
        have e5 : xf σ 5 w = gf (pz ρ 31 0) 9 w := by rw [h.2.2.2.1.2.1]
        by_cases c5 : gf (pz ρ 31 0) 9 w = 0 → v = 0
        · rw [admit_no c1 hw h40 f1 (by rw [e5]; exact c5), join_no c1 hw m1 h40 f2 c5]
          exact ⟨_, _, _, rfl, rfl, hJ⟩
        · have c6 : gf (pz ρ 31 0) 9 w = 0 := Classical.byContradiction fun q => c5 (fun e => absurd e q)
          have hv0 : 0 < v := Nat.pos_of_ne_zero fun q => c5 (fun _ => q)
          by_cases c7 : xn σ 2 = 900
          · rw [admit_full c1 hw h40 f1 ⟨hv0, hv⟩ (e5.trans c6) c7, join_full c1 hw m1 h40 f2 ⟨hv0, hv⟩ c6 (by rw [hE.1, c7]; rfl)]
            exact ⟨_, _, _, rfl, rfl, h⟩
          · have hJ5 : RelC 0 0 (yf (addM σ (mf (xn σ 0) a (nI w)) 0) 5 w 1) (pf (jnR (pz ρ 31 0) (xn σ 0) a (nI w)) 9 w 1) := by
              obtain ⟨h1, h2, h3, h4⟩ := hJ.2.2.2.1
              refine ⟨hJ.1, hJ.2.1, hJ.2.2.1, ⟨h1, ?_, h3, fun i => ?_⟩, hJ.2.2.2.2.1, hJ.2.2.2.2.2.1, hJ.2.2.2.2.2.2.1, hJ.2.2.2.2.2.2.2.1, hJ.2.2.2.2.2.2.2.2⟩
              · rw [xfyf_eq, gfpf_eq, h2]
              · rw [gfpf_eq]
                by_cases ei : i = w
                · subst ei; exact Or.inr pk_us
                · rw [pk_un ei]; exact h4 i
            rw [admit_gift c1 hw h40 f1 ⟨hv0, hv⟩ (e5.trans c6) (by omega), join_gift c1 hw m1 h40 f2 ⟨hv0, hv⟩ c6 hE.1 (by omega)]
            exact ⟨_, _, _, rfl, rfl, hJ5.wr (Nat.lt_succ_self _) (by show xn σ 2 < 900; omega) 0 (nI v).toInt64⟩
    · unfold fC_Cl_admit fR_join
      rw [isKind_eq, fR_in_eq, bd_s, bd_s, wi_t c1, if_neg one_ne, if_neg one_ne, isHouse_eq, fR_in_eq, bd_s, bd_s, wi_f c2, if_pos rfl, if_pos rfl]
      exact ⟨-1, _, _, rfl, rfl, h⟩
  · unfold fC_Cl_admit fR_join
    rw [isKind_eq, fR_in_eq, bd_s, bd_s, wi_f c1, if_pos rfl, if_pos rfl]
    exact ⟨-1, _, _, rfl, rfl, h⟩
