/-! PURE: columns of members, cells of months, entries -/
theorem colm_ne {σ : SC} {c i j : Nat} {v : Int32} (e : j ≠ i) : (fun k => xm (ym σ c i v) k j) = fun k => xm σ k j := by
  funext k
  by_cases h : k = c
  · subst h; rw [xmym_eq]; exact pk_un e
  · rw [xmym_ne h]
theorem colm_eq {σ : SC} {c i : Nat} {v : Int32} : (fun k => xm (ym σ c i v) k i) = upd (fun k => xm σ k i) c v := by
  funext k
  by_cases h : k = c
  · subst h; rw [xmym_eq]; exact pk_us.trans pk_us.symm
  · rw [xmym_ne h]; exact (pk_un (f := fun k => xm σ k i) h).symm
theorem colg_ne {ρ : SR} {c i j : Nat} {v : Int32} (e : j ≠ i) : (fun k => gf (pf ρ c i v) k j) = fun k => gf ρ k j := by
  funext k
  by_cases h : k = c
  · subst h; rw [gfpf_eq]; exact pk_un e
  · rw [gfpf_ne h]
theorem colg_eq {ρ : SR} {c i : Nat} {v : Int32} : (fun k => gf (pf ρ c i v) k i) = upd (fun k => gf ρ k i) c v := by
  funext k
  by_cases h : k = c
  · subst h; rw [gfpf_eq]; exact pk_us.trans pk_us.symm
  · rw [gfpf_ne h]; exact (pk_un (f := fun k => gf ρ k i) h).symm
theorem RMem.at {σ σ' : SC} {ρ ρ' : SR} (h : RMem σ ρ) {i : Nat} (e1 : gz ρ' 19 = gz ρ 19) (e2 : xn σ' 0 = xn σ 0) (hne : ∀ j, j ≠ i → RM1 j (fun k => xm σ k j) (fun k => gf ρ k j) → RM1 j (fun k => xm σ' k j) (fun k => gf ρ' k j)) (hi : RM1 i (fun k => xm σ k i) (fun k => gf ρ k i) → RM1 i (fun k => xm σ' k i) (fun k => gf ρ' k i)) : RMem σ' ρ' := by
  refine ⟨by rw [e1, e2]; exact h.1, by rw [e2]; exact h.2.1, fun j hj => ?_⟩
  rw [e2] at hj
  by_cases e : j = i
  · subst e; exact hi (h.2.2 j hj)
  · exact hne j e (h.2.2 j hj)
theorem xcyc_ne {σ : SC} {k j i : Nat} {v : Int32} (h : j ≠ k) : xc (yc σ k i v) j = xc σ j := va_up_ne _ _ h
theorem xcyc_eq {σ : SC} {k i : Nat} {v : Int32} : xc (yc σ k i v) k = upd (xc σ k) i v := va_up_self _ _ _
theorem RMo0.cell {σ : SC} {ρ : SR} (h : RMo0 σ ρ) {j k : Nat} (hj : j ≤ xn σ 3) (hk : k < 8) (v : Int32) (h0 : k = 0 → ∃ p : Nat, p ≤ 5000 ∧ v = nI p) : RMo0 (yc σ k j v) (pf ρ 21 (8 * j + k) v) := by
  obtain ⟨h1, h2, h3, h4, h5, h6, h7⟩ := h
  refine ⟨h1, h2, h3, h4, fun j' k' hj' hk' => ?_, fun i hi => ?_, fun j' hj' => ?_⟩
  · rw [gfpf_eq]
    by_cases e : k' = k
    · subst e
      rw [xcyc_eq]
      by_cases e2 : j' = j
      · subst e2; exact pk_us.trans pk_us.symm
      · rw [pk_un e2, pk_un (by omega)]; exact h5 j' k' hj' hk'
    · rw [xcyc_ne e, pk_un (by omega)]; exact h5 j' k' hj' hk'
  · have hi' : 8 * xn σ 3 + 8 ≤ i := hi
    rw [gfpf_eq, pk_un (by omega)]; exact h6 i hi'
  · rw [gfpf_eq]
    by_cases e : 8 * j' = 8 * j + k
    · obtain ⟨p, hp, rfl⟩ := h0 (by omega)
      rw [e]; exact ⟨p, hp, pk_us⟩
    · rw [pk_un e]; exact h7 j' hj'
/-- a cell of a month that is neither printed nor stock nor sent -/
theorem RSt.cell {c : Nat} {σ : SC} {ρ : SR} (h : RSt c σ ρ) {j k : Nat} (hk : k < 8) (v : Int32) (h1 : k ≠ 1) (h2 : k ≠ 2) : RSt c (yc σ k j v) (pf ρ 21 (8 * j + k) v) := by
  intro j' hj'
  obtain ⟨pr, st, a, b, e1, e2⟩ := h j' hj'
  rw [gfpf_eq, pk_un (by omega), pk_un (by omega)]
  exact ⟨pr, st, a, b, e1, e2⟩
theorem RSe.cell {c : Nat} {σ : SC} {ρ : SR} (h : RSe c σ ρ) {j k : Nat} (hk : k < 8) (v : Int32) (h3 : k ≠ 3) : RSe c (yc σ k j v) (pf ρ 21 (8 * j + k) v) := by
  show gf (pf ρ 21 (8 * j + k) v) 21 (8 * xn σ 3 + 3) = nI c
  rw [gfpf_eq, pk_un (by omega)]; exact h
/-- the stock of a month changes -/
theorem RSt.stock {c c' : Nat} {σ : SC} {ρ : SR} (h : RSt c σ ρ) (hc : c ≤ c') {j : Nat} {v : Int32} (hv : ∀ pr st : Nat, pr ≤ 5000 → st ≤ pr + 40 * (xn σ 3 - j) + c → gf ρ 21 (8 * j + 1) = nI pr → gf ρ 21 (8 * j + 2) = nI st → ∃ st' : Nat, v = nI st' ∧ st' ≤ pr + 40 * (xn σ 3 - j) + c') : RSt c' (yc σ 2 j v) (pf ρ 21 (8 * j + 2) v) := by
  intro j' hj'
  obtain ⟨pr, st, a, b, e1, e2⟩ := h j' hj'
  rw [gfpf_eq, pk_un (by omega)]
  by_cases e : j' = j
  · subst e
    obtain ⟨st', rfl, hs⟩ := hv pr st a b e1 e2
    exact ⟨pr, st', a, hs, e1, pk_us⟩
  · rw [pk_un (by omega)]
    exact ⟨pr, st, a, Nat.le_trans b (Nat.add_le_add_left hc _), e1, e2⟩
theorem RelC.thrown {c k : Nat} {σ : SC} {ρ : SR} (h : RelC c k σ ρ) (v : Int32) : RelC c k σ (pz ρ 31 v) := ⟨h.1, h.2.1, h.2.2.1, h.2.2.2.1, h.2.2.2.2.1, h.2.2.2.2.2.1, h.2.2.2.2.2.2.1.z 31 v (by decide), h.2.2.2.2.2.2.2.1, h.2.2.2.2.2.2.2.2⟩
/-- a place in a list, told by a number -/
theorem idx_cases (a : Int32) {n : Nat} (hn : n ≤ 1000) : (wi a 0 (nI n - 1) = 0) ∨ ∃ i, i < n ∧ a = nI i ∧ wi a 0 (nI n - 1) = 1 := by
  by_cases c : (0 : Int32) ≤ a ∧ a ≤ nI n - 1
  · right
    cases n with
    | zero =>
      exfalso
      have h1 := c.1
      have h2 := c.2
      rw [iLe] at h1 h2
      rw [show (nI 0 - 1 : Int32).toInt = -1 by decide] at h2
      rw [tI_0] at h1
      omega
    | succ n =>
      have e : nI (n + 1) - 1 = nI n := nI_pred n
      have c2 := c
      rw [e] at c2
      obtain ⟨i, hi, rfl⟩ := wi_nat (n := n) (nI_toInt (by omega)) c2
      exact ⟨i, by omega, rfl, wi_t c⟩
  · exact Or.inl (wi_f c)
theorem findMember_cases {σ : SC} {ρ : SR} (h : RMem σ ρ) (a : Int32) : (fC_Cl_findMember σ a = some none ∧ fR_isMember ρ a = some 0) ∨ ∃ i, i < xn σ 0 ∧ i < 40 ∧ a = nI i ∧ fC_Cl_findMember σ a = some (some i) ∧ fR_isMember ρ a = some 1 := by
  have hn := h.2.1
  unfold fC_Cl_findMember fR_isMember
  rw [fC_isWithin_eq, fR_in_eq, h.1, bd_s, bd_s]
  rcases idx_cases a (n := xn σ 0) (by omega) with e | ⟨i, hi, rfl, e⟩
  · rw [e]; exact Or.inl ⟨rfl, rfl⟩
  · rw [e]
    refine Or.inr ⟨i, hi, by omega, rfl, ?_, rfl⟩
    rw [if_neg one_ne, if_neg (ix_ok hi (by omega)), nI_clamp (by omega)]
theorem find_cases {σ : SC} {ρ : SR} (h : REnt σ ρ) (a : Int32) : (fC_Le_find σ a = some none ∧ fR_in a 0 (gz ρ 27 - 1) = some 0) ∨ ∃ i, i < xn σ 2 ∧ i < 900 ∧ a = nI i ∧ fC_Le_find σ a = some (some i) ∧ fR_in a 0 (gz ρ 27 - 1) = some 1 := by
  have hn := h.2.1
  unfold fC_Le_find
  rw [fC_isWithin_eq, fR_in_eq, h.1, bd_s]
  rcases idx_cases a (n := xn σ 2) (by omega) with e | ⟨i, hi, rfl, e⟩
  · rw [e]; exact Or.inl ⟨rfl, rfl⟩
  · rw [e]
    refine Or.inr ⟨i, hi, by omega, rfl, ?_, rfl⟩
    rw [if_neg one_ne, if_neg (ix_ok hi (by omega)), nI_clamp (by omega)]
theorem findChoice_cases {σ : SC} {ρ : SR} (h : RMo0 σ ρ) (a : Int32) : (fC_Cl_findChoice σ a = some none ∧ fR_in a 0 (gz ρ 20) = some 0) ∨ ∃ i, i ≤ xn σ 3 ∧ i ≤ 60 ∧ a = nI i ∧ fC_Cl_findChoice σ a = some (some i) ∧ fR_in a 0 (gz ρ 20) = some 1 := by
  obtain ⟨-, h2, h3, h4, -⟩ := h
  unfold fC_Cl_findChoice
  have e0 : nI (xn σ 3 + 1) - 1 = nI (xn σ 3) := nI_pred _
  rw [fC_isWithin_eq, fR_in_eq, h2, bd_s, h4]
  rcases idx_cases a (n := xn σ 3 + 1) (by omega) with e | ⟨i, hi, rfl, e⟩
  · rw [e0] at e; rw [e0, e]; exact Or.inl ⟨rfl, rfl⟩
  · rw [e0] at e
    rw [e0, e]
    refine Or.inr ⟨i, by omega, by omega, rfl, ?_, rfl⟩
    rw [if_neg one_ne, if_neg (ix_ok hi (by omega)), nI_clamp (by omega)]
/-! entries -/
theorem sumE_congr {g g' : Nat → Int64} {p p' : Nat → Bool} : ∀ {n : Nat}, (∀ e, e < n → g e = g' e ∧ p e = p' e) → sumE g p n = sumE g' p' n
  | 0, _ => rfl
  | n + 1, h => by
    have h1 := h n (by omega)
    rw [sumE, sumE, sumE_congr (n := n) (fun e he => h e (by omega)), h1.1, h1.2]
theorem sumE_drop {g : Nat → Int64} {p p' : Nat → Bool} {e : Nat} (h1 : p e = true) (h2 : p' e = false) (h3 : ∀ j, j ≠ e → p' j = p j) : ∀ {n : Nat}, e < n → sumE g p' n = sumE g p n - g e
  | 0, h => by omega
  | n + 1, h => by
    rw [sumE, sumE]
    by_cases c : e = n
    · subst c
      rw [h1, h2, if_neg (by decide), if_pos rfl, sumE_congr (g := g) (g' := g) (p := p') (p' := p) (fun j hj => ⟨rfl, h3 j (by omega)⟩)]
      rw [Int64.add_sub_cancel]
    · rw [h3 n (by omega), sumE_drop h1 h2 h3 (n := n) (by omega)]
      by_cases q : p n = true
      · rw [if_pos q, if_pos q, Int64.sub_eq_add_neg, Int64.sub_eq_add_neg, Int64.add_assoc, Int64.add_assoc, Int64.add_comm (-g e)]
      · rw [if_neg q, if_neg q]
def wrC (σ : SC) (i : Nat) (s : Int32) (a : Int64) : SC := yb (addE σ i (ef (xz σ 6) s) a) i (xb σ i + a)
def wrR (ρ : SR) (a s : Int32) (v : Int64) : SR := pz (pf (pg (pf (pf (pf ρ 22 (gz ρ 27).toNatClampNeg a) 23 (gz ρ 27).toNatClampNeg (gz ρ 20)) 24 (gz ρ 27).toNatClampNeg s) (gz ρ 27).toNatClampNeg v) 26 (gz ρ 27).toNatClampNeg (-1)) 27 (gz ρ 27 + 1)
theorem enter_eq {ρ : SR} {n : Nat} (h : gz ρ 27 = nI n) (hn : n < 900) (a s : Int32) (v : Int64) : fR_enter ρ a s v = some (wrR ρ a s v) := by
  have c : ¬ (gz ρ 27 < 0 ∨ 900 ≤ (gz ρ 27).toNatClampNeg) := by rw [h]; exact ix_ok hn (by omega)
  unfold fR_enter
  refine (if_neg c).trans ?_
  refine (if_neg c).trans ?_
  refine (if_neg c).trans ?_
  refine (if_neg c).trans ?_
  refine (if_neg c).trans ?_
  rfl
theorem lg_cmp0 {a : Int64} (h : a ≠ 0) : ¬ lg_cmp a 0 = 0 := by
  rw [lg_cmp_eq]; exact h
theorem write_eq {σ : SC} {i : Nat} (hi : i < xn σ 0) (hn : xn σ 2 < 900) (s : Int32) {a : Int64} (ha : a ≠ 0) : fC_Cl_write σ i s a = some (wrC σ i s a) := by
  unfold fC_Cl_write fC_Le_write
  rw [if_neg (lg_cmp0 ha), if_pos (show nI (xn σ 2) < (900 : Int32) from nI_lt (b := 900) hn (by omega)), if_neg (Nat.not_le.mpr hi)]
  rfl
theorem write_0 (σ : SC) (i : Nat) (s : Int32) : fC_Cl_write σ i s 0 = some σ := by
  unfold fC_Cl_write fC_Le_write
  rw [if_pos (by decide)]
  rfl
theorem gfwr {ρ : SR} {a s : Int32} {v : Int64} {k : Nat} (h : k ≠ 22 ∧ k ≠ 23 ∧ k ≠ 24 ∧ k ≠ 26) : gf (wrR ρ a s v) k = gf ρ k := by
  unfold wrR
  exact (gfpf_ne h.2.2.2).trans ((gfpf_ne h.2.2.1).trans ((gfpf_ne h.2.1).trans (gfpf_ne h.1)))
theorem upd_lt {f : Nat → Int32} {n e : Nat} {v : Int32} (h : e < n) : upd f n v e = f e := pk_un (by omega)
theorem REnt.wr {σ : SC} {ρ : SR} (h : REnt σ ρ) (hm : xz σ 6 = gz ρ 20) (h0 : xn σ 0 ≤ 40) {i : Nat} (hi : i < xn σ 0) (hn : xn σ 2 < 900) (s : Int32) (a : Int64) : REnt (wrC σ i s a) (wrR ρ (nI i) s a) := by
  obtain ⟨h1, h2, h3, h4⟩ := h
  have hc : (gz ρ 27).toNatClampNeg = xn σ 2 := by rw [h1]; exact nI_clamp (by omega)
  have e22 : gf (wrR ρ (nI i) s a) 22 = upd (gf ρ 22) (xn σ 2) (nI i) := by rw [← hc]; rfl
  have e23 : gf (wrR ρ (nI i) s a) 23 = upd (gf ρ 23) (xn σ 2) (gz ρ 20) := by rw [← hc]; rfl
  have e24 : gf (wrR ρ (nI i) s a) 24 = upd (gf ρ 24) (xn σ 2) s := by rw [← hc]; rfl
  have e26 : gf (wrR ρ (nI i) s a) 26 = upd (gf ρ 26) (xn σ 2) (-1) := by rw [← hc]; rfl
  have eg : gg (wrR ρ (nI i) s a) = vp_updL (gg ρ) (xn σ 2) a := by rw [← hc]; rfl
  have exo : xo (wrC σ i s a) = va_up (xo σ) (xn σ 2) i := rfl
  have exn : xn (wrC σ i s a) 2 = xn σ 2 + 1 := rfl
  have exa : xa (wrC σ i s a) = vp_updL (xa σ) (xn σ 2) a := rfl
  have exe : ∀ k, xe (wrC σ i s a) k = upd (xe σ k) (xn σ 2) (ef (xz σ 6) s k) := fun k => rfl
  have exb : xb (wrC σ i s a) = vp_updL (xb σ) i (xb σ i + a) := rfl
  refine ⟨?_, ?_, fun e he => ?_, fun j hj => ?_⟩
  · show gz ρ 27 + 1 = nI (xn σ 2 + 1)
    rw [h1, nI_1]
  · rw [exn]; omega
  · rw [exn] at he
    rw [exo, exa, exe, exe, exe, e22, e23, e24, e26, eg]
    by_cases c : e = xn σ 2
    · subst c
      rw [va_up_self, pk_us, pk_us, pk_us, pk_us, pk_us, pk_us, pk_us, pk_uLs, pk_uLs]
      exact ⟨hi, rfl, hm, rfl, rfl, rfl⟩
    · rw [va_up_ne _ _ c, pk_un c, pk_un c, pk_un c, pk_un c, pk_un c, pk_un c, pk_un c, pk_uLn c, pk_uLn c]
      exact h3 e (by omega)
  · rw [exn, exb, sumE, eg]
    have q0 : sumE (vp_updL (gg ρ) (xn σ 2) a) (pE (wrR ρ (nI i) s a) j) (xn σ 2) = sumE (gg ρ) (pE ρ j) (xn σ 2) := sumE_congr (fun e he => ⟨pk_uLn (by omega), by
      unfold pE; rw [e22, e26, upd_lt he, upd_lt he]⟩)
    have q1 : pE (wrR ρ (nI i) s a) j (xn σ 2) = decide (i = j) := by
      unfold pE
      rw [e22, e26, pk_us, pk_us]
      have hj' : j < xn σ 0 := hj
      exact decide_eq_decide.mpr ⟨fun q => (nI_eq (by omega) (by omega)).mp q.1, fun q => ⟨by rw [q], rfl⟩⟩
    rw [q0, q1, pk_uLs]
    by_cases c : i = j
    · subst c
      rw [if_pos (by simp), pk_uLs, h4 i hj]
    · rw [if_neg (by simp [c]), pk_uLn (Ne.symm c)]
      exact h4 j hj
theorem RelC.wr {c k : Nat} {σ : SC} {ρ : SR} (h : RelC c k σ ρ) {i : Nat} (hi : i < xn σ 0) (hn : xn σ 2 < 900) (s : Int32) (a : Int64) : RelC c k (wrC σ i s a) (wrR ρ (nI i) s a) :=
  ⟨h.1, h.2.1, h.2.2.1, h.2.2.2.1, h.2.2.2.2.1, h.2.2.2.2.2.1, h.2.2.2.2.2.2.1.wr h.2.2.2.2.2.1.1.1 h.2.2.2.2.1.2.1 hi hn s a, h.2.2.2.2.2.2.2.1, h.2.2.2.2.2.2.2.2⟩
theorem bal_loop {ρ : SR} {n : Nat} (h : gz ρ 27 = nI n) (hn : n ≤ 900) (i : Nat) : ∀ (fuel e : Nat), e ≤ n → n - e < fuel → fR_balanceOf_L5 ρ (nI i) fuel (sumE (gg ρ) (pE ρ i) e) (nI e) = some (sumE (gg ρ) (pE ρ i) n) := by
  intro fuel
  induction fuel with
  | zero => intro e _ h; omega
  | succ f ih =>
    intro e he hf
    rw [fR_balanceOf_L5, h]
    by_cases c : e = n
    · subst c
      rw [if_pos (nI_le (Nat.le_refl _) (by omega))]
    · have hlt : e < n := by omega
      rw [if_neg (nI_ge hlt (by omega)), if_neg (ix_ok (n := 900) (by omega) (by omega)), nI_clamp (by omega), nI_1]
      have r := ih (e + 1) (by omega) (by omega)
      rw [sumE] at r
      by_cases c1 : gf ρ 22 e = nI i
      · rw [if_pos c1]
        by_cases c2 : gf ρ 26 e = -1
        · rw [if_pos c2, bd_s]
          rw [show pE ρ i e = true from decide_eq_true ⟨c1, c2⟩, if_pos rfl] at r
          exact r
        · rw [if_neg c2, bd_s]
          rw [show pE ρ i e = false from decide_eq_false (fun q => c2 q.2), if_neg (by decide)] at r
          exact r
      · rw [if_neg c1, bd_s]
        rw [show pE ρ i e = false from decide_eq_false (fun q => c1 q.1), if_neg (by decide)] at r
        exact r
/-- the balance that is kept is the balance that is summed -/
theorem bal_eq {σ : SC} {ρ : SR} (h : REnt σ ρ) {i : Nat} (hi : i < xn σ 0) : fR_balanceOf ρ (nI i) = some (xb σ i) := by
  unfold fR_balanceOf
  have := bal_loop h.1 h.2.1 i 1000 0 (by omega) (by have := h.2.1; omega)
  rw [h.2.2.2 i hi]
  rw [show sumE (gg ρ) (pE ρ i) 0 = 0 from rfl, nI_0] at this
  rw [this]
  rfl
theorem inForceNow_eq {c k : Nat} {σ : SC} {ρ : SR} (h : RelC c k σ ρ) {j : Nat} (hj : j ≤ 7) : ∃ v : Nat, v ≤ 10000 ∧ fC_Cl_inForceNow σ (nI j) = some (nI v) ∧ fR_ruleOf ρ (nI j) (gz ρ 20) = some (nI v) := by
  obtain ⟨v, hv, e1, e2⟩ := rule_eq h.2.1 hj (gz ρ 20)
  refine ⟨v, hv, ?_, e2⟩
  unfold fC_Cl_inForceNow
  rw [show xz σ 6 = gz ρ 20 from h.2.2.2.2.2.1.1.1, e1]
  rfl
