theorem nI60 : (60 : Int32) = nI 60 := rfl
theorem nI_neg1 (b : Nat) (h : b < 2 ^ 31) : ¬ (nI b = -1) := fun e => by
  have h1 := nI_toInt h
  rw [e, show (-1 : Int32).toInt = -1 by decide] at h1
  omega
theorem rule_loop {σ : SC} {ρ : SR} {r : Nat} (hr : r ≤ 60) (hz : xz σ 1 = nI r) (hg : gz ρ 7 = nI r) (hv : ∀ i, i < r → xf σ 1 i = gf ρ 4 i ∧ xf σ 2 i = gf ρ 5 i ∧ xf σ 3 i = gf ρ 6 i ∧ (∃ v : Nat, v ≤ 10000 ∧ gf ρ 5 i = nI v) ∧ ∃ m : Nat, m ≤ 60 ∧ gf ρ 6 i = nI m) (nm mo D : Int32) :
    ∀ (n i : Nat) (best val since : Int32), i ≤ r → r - i < n → ((best = -1 ∧ val = D ∧ since = 0) ∨ ∃ b, b < i ∧ best = nI b ∧ val = gf ρ 5 b ∧ since = gf ρ 6 b) →
      ∃ res best', fC_Rb_inForce_L30 σ nm mo n val since (nI i) = some res ∧ fR_ruleOf_L5 ρ nm mo n best (nI i) = some best' ∧ ((best' = -1 ∧ res = D) ∨ ∃ b, b < r ∧ best' = nI b ∧ res = gf ρ 5 b) := by
  intro n
  induction n with
  | zero => intro i best val since _ h; omega
  | succ n ih =>
    intro i best val since hi hn hinv
    rw [fC_Rb_inForce_L30, fR_ruleOf_L5, hz, hg]
    by_cases e : i = r
    · subst e
      rw [if_pos (nI_le (Nat.le_refl _) (by omega)), if_pos (nI_le (Nat.le_refl _) (by omega))]
      refine ⟨_, _, rfl, rfl, ?_⟩
      rcases hinv with ⟨h1, h2, -⟩ | ⟨b, hb, h1, h2, -⟩
      · exact Or.inl ⟨h1, h2⟩
      · exact Or.inr ⟨b, hb, h1, h2⟩
    · have hlt : i < r := by omega
      obtain ⟨e1, e2, e3, -, m, hm, em⟩ := hv i hlt
      rw [if_neg (nI_ge hlt (by omega)), if_neg (nI_ge hlt (by omega)), nI60, if_neg (nI_ge (show i < 60 by omega) (by omega)), if_neg (ix_ok (n := 60) (by omega) (by omega)), if_neg (ix_ok (n := 60) (by omega) (by omega)), nI_clamp (by omega), e1, e2, e3, nI_1]
      have keep := ih (i + 1) best val since (by omega) (by omega) (by
        rcases hinv with h | ⟨b, hb, h⟩
        · exact Or.inl h
        · exact Or.inr ⟨b, by omega, h⟩)
      have take := ih (i + 1) (nI i) (gf ρ 5 i) (gf ρ 6 i) (by omega) (by omega) (Or.inr ⟨i, by omega, rfl, rfl, rfl⟩)
      by_cases c1 : gf ρ 4 i = nm
      · rw [if_pos c1, if_pos c1]
        by_cases c2 : mo < gf ρ 6 i
        · rw [if_pos c2, if_pos c2]; exact keep
        · rw [if_neg c2, if_neg c2]
          rcases hinv with ⟨h1, h2, h3⟩ | ⟨b, hb, h1, h2, h3⟩
          · rw [h3, if_neg (show ¬ gf ρ 6 i < 0 by rw [em]; exact nI_pos (by omega)), if_pos h1]
            exact take
          · rw [h1, if_neg (nI_neg1 b (by omega)), if_neg (ix_ok (n := 60) (by omega) (by omega)), nI_clamp (by omega), h3]
            by_cases c3 : gf ρ 6 i < gf ρ 6 b
            · rw [if_pos c3, if_pos c3]
              rw [h1, h3] at keep
              exact keep
            · rw [if_neg c3, if_neg c3]; exact take
      · rw [if_neg c1, if_neg c1]; exact keep
/-- a rule in force: both find the same number -/
theorem rule_eq {σ : SC} {ρ : SR} (h : RRule σ ρ) {j : Nat} (hj : j ≤ 7) (mo : Int32) : ∃ v : Nat, v ≤ 10000 ∧ fC_Rb_inForce σ (nI j) mo = some (nI v) ∧ fR_ruleOf ρ (nI j) mo = some (nI v) := by
  obtain ⟨-, hz, r, hr, hg, hv⟩ := h
  rw [hg] at hz
  have hw : fC_isWithin (nI j) 0 (8 - 1) = some 1 := by
    rw [fC_isWithin_eq, wi_t]
    exact ⟨nI_pos' (by omega), nI_le (a := j) (b := 7) hj (by omega)⟩
  unfold fC_Rb_inForce fR_ruleOf
  rw [hw, bd_s, if_neg one_ne, if_neg (ix_ok (n := 8) (by omega) (by omega)), bd_s, nI_clamp (by omega)]
  obtain ⟨res, best', h1, h2, h3⟩ := rule_loop hr hz hg hv (nI j) mo (kwa.getD j 0) 1000 0 (-1) (kwa.getD j 0) 0 (by omega) (by omega) (Or.inl ⟨rfl, rfl, rfl⟩)
  have z : nI 0 = (0 : Int32) := rfl
  rw [z] at h1 h2
  rw [h1, h2, bd_s, bd_s]
  rcases h3 with ⟨rfl, rfl⟩ | ⟨b, hb, rfl, rfl⟩
  · rw [if_pos rfl]
    have : j = 0 ∨ j = 1 ∨ j = 2 ∨ j = 3 ∨ j = 4 ∨ j = 5 ∨ j = 6 ∨ j = 7 := by omega
    rcases this with rfl | rfl | rfl | rfl | rfl | rfl | rfl | rfl
    · exact ⟨10, by omega, rfl, rfl⟩
    · exact ⟨0, by omega, rfl, rfl⟩
    · exact ⟨0, by omega, rfl, rfl⟩
    · exact ⟨0, by omega, rfl, rfl⟩
    · exact ⟨0, by omega, rfl, rfl⟩
    · exact ⟨3, by omega, rfl, rfl⟩
    · exact ⟨6, by omega, rfl, rfl⟩
    · exact ⟨50, by omega, rfl, rfl⟩
  · obtain ⟨-, -, -, ⟨v, hv1, hv2⟩, -⟩ := hv b hb
    rw [if_neg (nI_neg1 b (by omega)), if_neg (ix_ok (n := 60) (by omega) (by omega)), nI_clamp (by omega), hv2]
    exact ⟨v, hv1, rfl, rfl⟩
theorem eq_rule {σ : SC} {ρ : SR} (h : Rel σ ρ) (a b : Int32) : ∃ r ρ', fC_B_rule σ a b = some r ∧ fR_rule ρ a b = some (r, ρ') ∧ Rel σ ρ' := by
  have h' := h.thrown 0
  unfold fC_B_rule fR_rule
  rw [fC_isWithin_eq, fR_in_eq, bd_s, bd_s]
  by_cases c1 : (0 : Int32) ≤ a ∧ a ≤ 7
  · rw [wi_t c1, if_neg one_ne, if_neg one_ne, fC_isWithin_eq, fR_in_eq, bd_s, bd_s]
    by_cases c2 : (0 : Int32) ≤ b ∧ b ≤ 60
    · obtain ⟨j, hj, rfl⟩ := wi_nat (n := 7) (by decide) c1
      obtain ⟨v, -, e1, e2⟩ := rule_eq h'.2.1 hj b
      rw [wi_t c2, if_neg one_ne, if_neg one_ne, e1, e2]
      exact ⟨_, _, rfl, rfl, h'⟩
    · rw [wi_f c2, if_pos rfl, if_pos rfl]; exact ⟨_, _, rfl, rfl, h'⟩
  · rw [wi_f c1, if_pos rfl, if_pos rfl]; exact ⟨_, _, rfl, rfl, h'⟩
