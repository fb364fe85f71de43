theorem gfpf_ne {ρ : SR} {k j i : Nat} {v : Int32} (h : j ≠ k) : gf (pf ρ k i v) j = gf ρ j := va_up_ne _ _ h
theorem gfpf_eq {ρ : SR} {k i : Nat} {v : Int32} : gf (pf ρ k i v) k = upd (gf ρ k) i v := va_up_self _ _ _
theorem xfyf_ne {σ : SC} {k j i : Nat} {v : Int32} (h : j ≠ k) : xf (yf σ k i v) j = xf σ j := va_up_ne _ _ h
theorem xfyf_eq {σ : SC} {k i : Nat} {v : Int32} : xf (yf σ k i v) k = upd (xf σ k) i v := va_up_self _ _ _
theorem xmym_ne {σ : SC} {k j i : Nat} {v : Int32} (h : j ≠ k) : xm (ym σ k i v) j = xm σ j := va_up_ne _ _ h
theorem xmym_eq {σ : SC} {k i : Nat} {v : Int32} : xm (ym σ k i v) k = upd (xm σ k) i v := va_up_self _ _ _
theorem REnt.f {σ : SC} {ρ : SR} (h : REnt σ ρ) (k i : Nat) (v : Int32) (hk : 22 ≠ k ∧ 23 ≠ k ∧ 24 ≠ k ∧ 26 ≠ k) : REnt σ (pf ρ k i v) := by
  refine ⟨h.1, h.2.1, fun e he => ?_, fun m hm => ?_⟩
  · rw [gfpf_ne hk.1, gfpf_ne hk.2.1, gfpf_ne hk.2.2.1, gfpf_ne hk.2.2.2]; exact h.2.2.1 e he
  · unfold pE; rw [gfpf_ne hk.1, gfpf_ne hk.2.2.2]; exact h.2.2.2 m hm
theorem one_ne : ¬ ((1 : Int32) = 0) := by decide
theorem b1 : ((1 : Int32) = 0 ∨ (1 : Int32) = 1) := Or.inr rfl
theorem b0 : ((0 : Int32) = 0 ∨ (0 : Int32) = 1) := Or.inl rfl
theorem bd_s {α β : Type} {a : α} {f : α → Option β} : Option.bind (some a) f = f a := rfl
theorem setLag_eq (σ : SC) (a b : Int32) : fC_Cl_setLag σ a b = if ((0 : Int32) ≤ a ∧ a ≤ 9) ∧ (0 : Int32) ≤ b ∧ b ≤ 20 then some (1, yf σ 4 a.toNatClampNeg b) else some (0, σ) := by
  unfold fC_Cl_setLag
  rw [isHouse_eq, bd_s]
  by_cases c1 : (0 : Int32) ≤ a ∧ a ≤ 9
  · rw [wi_t c1, if_neg one_ne, fC_isWithin_eq, bd_s]
    by_cases c2 : (0 : Int32) ≤ b ∧ b ≤ 20
    · obtain ⟨j, hj, rfl⟩ := wi_nat (n := 9) (by decide) c1
      rw [wi_t c2, if_neg one_ne, if_neg (ix_ok (n := 10) (by omega) (by omega)), if_pos ⟨c1, c2⟩]
    · rw [wi_f c2, if_pos rfl, if_neg (fun q => c2 q.2)]
  · rw [wi_f c1, if_pos rfl, if_neg (fun q => c1 q.1)]
theorem rlag_eq (ρ : SR) (a b : Int32) : fR_lag ρ a b = if ((0 : Int32) ≤ a ∧ a ≤ 9) ∧ (0 : Int32) ≤ b ∧ b ≤ 20 then some (1, pf (pz ρ 31 0) 8 a.toNatClampNeg b) else some (0, pz ρ 31 0) := by
  unfold fR_lag
  rw [fR_in_eq, bd_s]
  by_cases c1 : (0 : Int32) ≤ a ∧ a ≤ 9
  · rw [wi_t c1, if_neg one_ne, fR_in_eq, bd_s]
    by_cases c2 : (0 : Int32) ≤ b ∧ b ≤ 20
    · obtain ⟨j, hj, rfl⟩ := wi_nat (n := 9) (by decide) c1
      rw [wi_t c2, if_neg one_ne, if_neg (ix_ok (n := 10) (by omega) (by omega)), if_pos ⟨c1, c2⟩]
    · rw [wi_f c2, if_pos rfl, if_neg (fun q => c2 q.2)]
  · rw [wi_f c1, if_pos rfl, if_neg (fun q => c1 q.1)]
theorem eq_lag {σ : SC} {ρ : SR} (h : Rel σ ρ) (a b : Int32) : ∃ r σ' ρ', fC_B_lag σ a b = some (r, σ') ∧ fR_lag ρ a b = some (r, ρ') ∧ Rel σ' ρ' := by
  unfold fC_B_lag
  rw [setLag_eq, rlag_eq]
  by_cases c : ((0 : Int32) ≤ a ∧ a ≤ 9) ∧ (0 : Int32) ≤ b ∧ b ≤ 20
  · rw [if_pos c, if_pos c]
    refine ⟨1, _, _, rfl, rfl, ?_⟩
    obtain ⟨v, hv, rfl⟩ := wi_nat (n := 20) (by decide) c.2
    generalize a.toNatClampNeg = j
    have h' := h.thrown 0
    refine ⟨h'.1, h'.2.1, h'.2.2.1, ?_, h'.2.2.2.2.1, h'.2.2.2.2.2.1, h'.2.2.2.2.2.2.1.f 8 j _ (by decide), h'.2.2.2.2.2.2.2.1, h'.2.2.2.2.2.2.2.2⟩
    obtain ⟨h1, h2, h3, h4⟩ := h'.2.2.2.1
    refine ⟨?_, h2, fun i => ?_, h4⟩
    · rw [xfyf_eq, gfpf_eq, h1]
    · rw [gfpf_eq]
      by_cases e : i = j
      · exact ⟨v, hv, if_pos e⟩
      · obtain ⟨w, a, b⟩ := h3 i
        exact ⟨w, a, (if_neg e).trans b⟩
  · rw [if_neg c, if_neg c]
    exact ⟨0, _, _, rfl, rfl, h.thrown 0⟩
theorem setPercent_eq (σ : SC) (a b : Int32) : fC_Ch_setPercent σ a b = if ((0 : Int32) ≤ a ∧ a ≤ 3) ∧ (0 : Int32) ≤ b ∧ b ≤ 100 then some (1, yf σ 6 a.toNatClampNeg b) else some (0, σ) := by
  unfold fC_Ch_setPercent
  rw [isKind_eq, bd_s]
  by_cases c1 : (0 : Int32) ≤ a ∧ a ≤ 3
  · rw [wi_t c1, if_neg one_ne, fC_isWithin_eq, bd_s]
    by_cases c2 : (0 : Int32) ≤ b ∧ b ≤ 100
    · obtain ⟨j, hj, rfl⟩ := wi_nat (n := 3) (by decide) c1
      rw [wi_t c2, if_neg one_ne, if_neg (ix_ok (n := 4) (by omega) (by omega)), if_pos ⟨c1, c2⟩]
    · rw [wi_f c2, if_pos rfl, if_neg (fun q => c2 q.2)]
  · rw [wi_f c1, if_pos rfl, if_neg (fun q => c1 q.1)]
theorem rchance_eq (ρ : SR) (a b : Int32) : fR_chance ρ a b = if ((0 : Int32) ≤ a ∧ a ≤ 3) ∧ (0 : Int32) ≤ b ∧ b ≤ 100 then some (1, pf (pz ρ 31 0) 28 a.toNatClampNeg b) else some (0, pz ρ 31 0) := by
  unfold fR_chance
  rw [fR_in_eq, bd_s]
  by_cases c1 : (0 : Int32) ≤ a ∧ a ≤ 3
  · rw [wi_t c1, if_neg one_ne, fR_in_eq, bd_s]
    by_cases c2 : (0 : Int32) ≤ b ∧ b ≤ 100
    · obtain ⟨j, hj, rfl⟩ := wi_nat (n := 3) (by decide) c1
      rw [wi_t c2, if_neg one_ne, if_neg (ix_ok (n := 4) (by omega) (by omega)), if_pos ⟨c1, c2⟩]
    · rw [wi_f c2, if_pos rfl, if_neg (fun q => c2 q.2)]
  · rw [wi_f c1, if_pos rfl, if_neg (fun q => c1 q.1)]
theorem eq_chance {σ : SC} {ρ : SR} (h : Rel σ ρ) (a b : Int32) : ∃ r σ' ρ', fC_B_chance σ a b = some (r, σ') ∧ fR_chance ρ a b = some (r, ρ') ∧ Rel σ' ρ' := by
  unfold fC_B_chance
  rw [setPercent_eq, rchance_eq]
  by_cases c : ((0 : Int32) ≤ a ∧ a ≤ 3) ∧ (0 : Int32) ≤ b ∧ b ≤ 100
  · rw [if_pos c, if_pos c]
    refine ⟨1, _, _, rfl, rfl, ?_⟩
    obtain ⟨v, hv, rfl⟩ := wi_nat (n := 100) (by decide) c.2
    generalize a.toNatClampNeg = j
    have h' := h.thrown 0
    refine ⟨h'.1, h'.2.1, h'.2.2.1, h'.2.2.2.1, h'.2.2.2.2.1, h'.2.2.2.2.2.1, h'.2.2.2.2.2.2.1.f 28 j _ (by decide), ?_, h'.2.2.2.2.2.2.2.2⟩
    obtain ⟨h1, h2⟩ := h'.2.2.2.2.2.2.2.1
    refine ⟨?_, fun i => ?_⟩
    · rw [xfyf_eq, gfpf_eq, h1]
    · rw [gfpf_eq]
      by_cases e : i = j
      · exact ⟨v, hv, if_pos e⟩
      · obtain ⟨w, a, b⟩ := h2 i
        exact ⟨w, a, (if_neg e).trans b⟩
  · rw [if_neg c, if_neg c]
    exact ⟨0, _, _, rfl, rfl, h.thrown 0⟩
theorem isPairC_eq (a b : Int32) : fC_Ju_isPair a b = some (if ((0 : Int32) ≤ a ∧ a ≤ 8) ∧ (0 : Int32) ≤ b ∧ b ≤ 19 then 1 else 0) := by
  unfold fC_Ju_isPair
  rw [fC_isWithin_eq, bd_s]
  by_cases c1 : (0 : Int32) ≤ a ∧ a ≤ 8
  · rw [wi_t c1, if_neg one_ne, isBook_eq, bd_s]
    by_cases c2 : (0 : Int32) ≤ b ∧ b ≤ 19
    · rw [wi_t c2, if_neg one_ne, if_pos ⟨c1, c2⟩]
    · rw [wi_f c2, if_pos rfl, if_neg (fun q => c2 q.2)]
  · rw [wi_f c1, if_pos rfl, if_neg (fun q => c1 q.1)]
theorem isPairR_eq (a b : Int32) : fR_isPair a b = some (if ((0 : Int32) ≤ a ∧ a ≤ 8) ∧ (0 : Int32) ≤ b ∧ b ≤ 19 then 1 else 0) := by
  unfold fR_isPair
  rw [fR_in_eq, bd_s]
  by_cases c1 : (0 : Int32) ≤ a ∧ a ≤ 8
  · rw [wi_t c1, if_neg one_ne, fR_in_eq, bd_s]
    by_cases c2 : (0 : Int32) ≤ b ∧ b ≤ 19
    · rw [wi_t c2, if_neg one_ne, if_pos ⟨c1, c2⟩]
    · rw [wi_f c2, if_pos rfl, if_neg (fun q => c2 q.2)]
  · rw [wi_f c1, if_pos rfl, if_neg (fun q => c1 q.1)]
/-- the place of a judge's mark -/
theorem pair_at {a b : Int32} (c : ((0 : Int32) ≤ a ∧ a ≤ 8) ∧ (0 : Int32) ≤ b ∧ b ≤ 19) : ∃ j : Nat, j < 180 ∧ (20 : Int32) * a + b = nI j ∧ a * 20 + b = nI j := by
  obtain ⟨x, hx, rfl⟩ := wi_nat (n := 8) (by decide) c.1
  obtain ⟨y, hy, rfl⟩ := wi_nat (n := 19) (by decide) c.2
  have e1 : (20 : Int32) * nI x = nI (20 * x) := pk_mul 20 x
  have e2 : nI x * (20 : Int32) = nI (x * 20) := pk_mul x 20
  refine ⟨20 * x + y, by omega, ?_, ?_⟩
  · rw [e1, nI_add]
  · rw [e2, nI_add, Nat.mul_comm]
theorem RJu.mk1 {σ : SC} {ρ : SR} (h : RJu σ ρ) (j : Nat) {v : Int32} (hv : v = -1 ∨ ∃ n : Nat, n ≤ 10 ∧ v = nI n) : RJu (yf σ 7 j v) (pf ρ 29 j v) := by
  obtain ⟨h1, h2, h3, h4⟩ := h
  refine ⟨by rw [xfyf_eq, gfpf_eq, h1], h2, fun i => ?_, h4⟩
  rw [gfpf_eq]
  by_cases e : i = j
  · rw [show upd (gf ρ 29) j v i = v from if_pos e]; exact hv
  · rw [show upd (gf ρ 29) j v i = gf ρ 29 i from if_neg e]; exact h3 i
theorem RJu.mk2 {σ : SC} {ρ : SR} (h : RJu σ ρ) (j : Nat) {v : Int32} (hv : v = 0 ∨ v = 1) : RJu (yf σ 8 j v) (pf ρ 30 j v) := by
  obtain ⟨h1, h2, h3, h4⟩ := h
  refine ⟨h1, by rw [xfyf_eq, gfpf_eq, h2], h3, fun i => ?_⟩
  rw [gfpf_eq]
  by_cases e : i = j
  · rw [show upd (gf ρ 30) j v i = v from if_pos e]; exact hv
  · rw [show upd (gf ρ 30) j v i = gf ρ 30 i from if_neg e]; exact h4 i
theorem eq_mark {σ : SC} {ρ : SR} (h : Rel σ ρ) (a b v : Int32) : ∃ r σ' ρ', fC_B_mark σ a b v = some (r, σ') ∧ fR_mark ρ a b v = some (r, ρ') ∧ Rel σ' ρ' := by
  unfold fC_B_mark fC_Ju_setMark fR_mark
  rw [isPairC_eq, isPairR_eq, bd_s, bd_s]
  by_cases c : ((0 : Int32) ≤ a ∧ a ≤ 8) ∧ (0 : Int32) ≤ b ∧ b ≤ 19
  · rw [if_pos c, if_neg one_ne, if_neg one_ne, fC_isWithin_eq, fR_in_eq, bd_s, bd_s]
    by_cases c2 : (-1 : Int32) ≤ v ∧ v ≤ 10
    · obtain ⟨j, hj, e1, e2⟩ := pair_at c
      rw [wi_t c2, if_neg one_ne, if_neg one_ne, show fCJu_placeOf a b = some (a * 20 + b) from rfl, bd_s, e1, e2, if_neg (ix_ok hj (by omega)), if_neg (ix_ok hj (by omega))]
      refine ⟨1, _, _, rfl, rfl, ?_⟩
      have h' := h.thrown 0
      refine ⟨h'.1, h'.2.1, h'.2.2.1, h'.2.2.2.1, h'.2.2.2.2.1, h'.2.2.2.2.2.1, h'.2.2.2.2.2.2.1.f 29 _ _ (by decide), h'.2.2.2.2.2.2.2.1, h'.2.2.2.2.2.2.2.2.mk1 _ ?_⟩
      by_cases e : v = -1
      · exact Or.inl e
      · refine Or.inr ?_
        refine wi_nat (n := 10) (hi := 10) (by decide) ⟨?_, c2.2⟩
        have q := c2.1
        rw [iLe] at q ⊢
        have ne : v.toInt ≠ (-1 : Int32).toInt := sw_ne e
        rw [show (-1 : Int32).toInt = -1 by decide] at q ne
        rw [show (0 : Int32).toInt = 0 by decide]
        omega
    · rw [wi_f c2, if_pos rfl, if_pos rfl]
      exact ⟨0, _, _, rfl, rfl, h.thrown 0⟩
  · rw [if_neg c, if_pos rfl, if_pos rfl]
    exact ⟨0, _, _, rfl, rfl, h.thrown 0⟩
theorem eq_kin {σ : SC} {ρ : SR} (h : Rel σ ρ) (a b v : Int32) (hv : v = 0 ∨ v = 1) : ∃ r σ' ρ', fC_B_kin σ a b v = some (r, σ') ∧ fR_kin ρ a b v = some (r, ρ') ∧ Rel σ' ρ' := by
  have hn : vp_nar .boolean v = v := by rcases hv with rfl | rfl <;> rfl
  unfold fC_B_kin fC_Ju_setKin fR_kin
  rw [isPairC_eq, isPairR_eq, bd_s, bd_s, hn]
  by_cases c : ((0 : Int32) ≤ a ∧ a ≤ 8) ∧ (0 : Int32) ≤ b ∧ b ≤ 19
  · obtain ⟨j, hj, e1, e2⟩ := pair_at c
    rw [if_pos c, if_neg one_ne, if_neg one_ne, show fCJu_placeOf a b = some (a * 20 + b) from rfl, bd_s, e1, e2, if_neg (ix_ok hj (by omega)), if_neg (ix_ok hj (by omega))]
    refine ⟨1, _, _, rfl, rfl, ?_⟩
    have h' := h.thrown 0
    exact ⟨h'.1, h'.2.1, h'.2.2.1, h'.2.2.2.1, h'.2.2.2.2.1, h'.2.2.2.2.2.1, h'.2.2.2.2.2.2.1.f 30 _ _ (by decide), h'.2.2.2.2.2.2.2.1, h'.2.2.2.2.2.2.2.2.mk2 _ hv⟩
  · rw [if_neg c, if_pos rfl, if_pos rfl]
    exact ⟨0, _, _, rfl, rfl, h.thrown 0⟩
