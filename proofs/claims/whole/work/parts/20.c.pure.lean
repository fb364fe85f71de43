/-! PURE: member, entry, balance -/
theorem eq_member {σ : SC} {ρ : SR} (h0 : Rel σ ρ) (a b : Int32) : ∃ o r ρ', fC_B_member σ a b = some o ∧ fR_member ρ a b = some (r, ρ') ∧ Rel σ ρ' ∧ ((o = none ∧ gz ρ' 31 = 1) ∨ (o = some r ∧ gz ρ' 31 = 0)) := by
  have h : Rel σ (pz ρ 31 0) := h0.thrown 0
  have e31 : gz (pz ρ 31 0) 31 = 0 := rfl
  unfold fC_B_member fR_member
  generalize pz ρ 31 0 = ρ1 at *
  have thr : ∃ o r ρ', some (none : Option Int64) = some o ∧ (some ((0 : Int64), pz ρ1 31 1) : Option (Int64 × SR)) = some (r, ρ') ∧ Rel σ ρ' ∧ ((o = none ∧ gz ρ' 31 = 1) ∨ (o = some r ∧ gz ρ' 31 = 0)) := ⟨none, 0, _, rfl, rfl, h.thrown 1, Or.inl ⟨rfl, rfl⟩⟩
  have ret : ∀ v : Int64, ∃ o r ρ', some (some v) = some o ∧ (some (v, ρ1) : Option (Int64 × SR)) = some (r, ρ') ∧ Rel σ ρ' ∧ ((o = none ∧ gz ρ' 31 = 1) ∨ (o = some r ∧ gz ρ' 31 = 0)) := fun v => ⟨some v, v, ρ1, rfl, rfl, h, Or.inr ⟨rfl, e31⟩⟩
  rcases findMember_cases h.2.2.2.2.1 a with ⟨e1, e2⟩ | ⟨i, hi, hi40, rfl, e1, e2⟩
  · rw [e1, e2, bd_s, bd_s, if_pos rfl]
    exact thr
  · obtain ⟨q0, q1, q2, q3, q4, q5, q7, q8, q9, -⟩ := h.2.2.2.2.1.2.2 i hi
    have q1 : xm σ 1 i = gf ρ1 10 i := q1
    have q2 : xm σ 2 i = gf ρ1 11 i := q2
    have q3 : xm σ 3 i = gf ρ1 12 i := q3
    have q4 : xm σ 4 i = gf ρ1 13 i := q4
    have q5 : xm σ 5 i = gf ρ1 14 i := q5
    have q7 : xm σ 7 i = gf ρ1 15 i := q7
    have q8 : xm σ 8 i = gf ρ1 16 i := q8
    have q9 : xm σ 9 i = gf ρ1 17 i := q9
    have hlt : ¬ xn σ 0 ≤ i := Nat.not_le.mpr hi
    have ix : ¬ (nI i < 0 ∨ 40 ≤ (nI i).toNatClampNeg) := ix_ok hi40 (by omega)
    rw [e1, e2, bd_s, bd_s, if_neg one_ne, fR_in_eq, bd_s, bal_eq h.2.2.2.2.2.2.1 hi]
    simp only [ix, if_false]
    rw [nI_clamp (by omega), ← q1, ← q2, ← q3, ← q4, ← q5, ← q7, ← q8, ← q9]
    show ∃ o r ρ', (if b = 0 then _ else _) = _ ∧ _
    simp only [hlt, if_false]
    by_cases c : (0 : Int32) ≤ b ∧ b ≤ 8
    · rw [wi_t c, if_neg one_ne]
      obtain ⟨k, hk, rfl⟩ := wi_nat (n := 8) (by decide) c
      have : k = 0 ∨ k = 1 ∨ k = 2 ∨ k = 3 ∨ k = 4 ∨ k = 5 ∨ k = 6 ∨ k = 7 ∨ k = 8 := by omega
      rcases this with rfl | rfl | rfl | rfl | rfl | rfl | rfl | rfl | rfl
      · exact ret _
      · exact ret _
      · exact ret _
      · exact ret _
      · exact ret _
      · exact ret _
      · exact ret _
      · show ∃ o r ρ', (if xm σ 8 i = 0 then some (some (0 : Int64)) else some (some 1)) = some o ∧ (if xm σ 8 i = 0 then some ((0 : Int64), ρ1) else some (1, ρ1)) = some (r, ρ') ∧ _
        by_cases z : xm σ 8 i = 0
        · rw [if_pos z, if_pos z]; exact ret _
        · rw [if_neg z, if_neg z]; exact ret _
      · show ∃ o r ρ', (if xm σ 9 i = 0 then some (some (0 : Int64)) else some (some 1)) = some o ∧ (if xm σ 9 i = 0 then some ((0 : Int64), ρ1) else some (1, ρ1)) = some (r, ρ') ∧ _
        by_cases z : xm σ 9 i = 0
        · rw [if_pos z, if_pos z]; exact ret _
        · rw [if_neg z, if_neg z]; exact ret _
    · have n0 : ¬ b = 0 := fun e => c (by rw [e]; decide)
      have n1 : ¬ b = 1 := fun e => c (by rw [e]; decide)
      have n2 : ¬ b = 2 := fun e => c (by rw [e]; decide)
      have n3 : ¬ b = 3 := fun e => c (by rw [e]; decide)
      have n4 : ¬ b = 4 := fun e => c (by rw [e]; decide)
      have n5 : ¬ b = 5 := fun e => c (by rw [e]; decide)
      have n6 : ¬ b = 6 := fun e => c (by rw [e]; decide)
      have n7 : ¬ b = 7 := fun e => c (by rw [e]; decide)
      have n8 : ¬ b = 8 := fun e => c (by rw [e]; decide)
      rw [if_neg n0, if_neg n1, if_neg n2, if_neg n3, if_neg n4, if_neg n5, if_neg n6, if_neg n7, if_neg n8, wi_f c, if_pos rfl]
      exact thr
theorem eq_entry {σ : SC} {ρ : SR} (h0 : Rel σ ρ) (a b : Int32) : ∃ o r ρ', fC_B_entry σ a b = some o ∧ fR_entry ρ a b = some (r, ρ') ∧ Rel σ ρ' ∧ ((o = none ∧ gz ρ' 31 = 1) ∨ (o = some r ∧ gz ρ' 31 = 0)) := by
  have h : Rel σ (pz ρ 31 0) := h0.thrown 0
  have e31 : gz (pz ρ 31 0) 31 = 0 := rfl
  unfold fC_B_entry fR_entry
  generalize pz ρ 31 0 = ρ1 at *
  have thr : ∃ o r ρ', some (none : Option Int64) = some o ∧ (some ((0 : Int64), pz ρ1 31 1) : Option (Int64 × SR)) = some (r, ρ') ∧ Rel σ ρ' ∧ ((o = none ∧ gz ρ' 31 = 1) ∨ (o = some r ∧ gz ρ' 31 = 0)) := ⟨none, 0, _, rfl, rfl, h.thrown 1, Or.inl ⟨rfl, rfl⟩⟩
  have ret : ∀ v : Int64, ∃ o r ρ', some (some v) = some o ∧ (some (v, ρ1) : Option (Int64 × SR)) = some (r, ρ') ∧ Rel σ ρ' ∧ ((o = none ∧ gz ρ' 31 = 1) ∨ (o = some r ∧ gz ρ' 31 = 0)) := fun v => ⟨some v, v, ρ1, rfl, rfl, h, Or.inr ⟨rfl, e31⟩⟩
  have hE := h.2.2.2.2.2.2.1
  rcases find_cases hE a with ⟨e1, e2⟩ | ⟨i, hi, hi9, rfl, e1, e2⟩
  · rw [e1, e2, bd_s, bd_s, if_pos rfl]
    exact thr
  · obtain ⟨q1, q2, q3, q4, q5, q6⟩ := hE.2.2.1 i hi
    have q0 : xm σ 0 (xo σ i) = gf ρ1 22 i := (h.2.2.2.2.1.2.2 _ q1).1.trans q2.symm
    have hlt : ¬ xn σ 2 ≤ i := Nat.not_le.mpr hi
    have hlo : ¬ xn σ 0 ≤ xo σ i := Nat.not_le.mpr q1
    have ix : ¬ (nI i < 0 ∨ 900 ≤ (nI i).toNatClampNeg) := ix_ok hi9 (by omega)
    rw [e1, e2, bd_s, bd_s, if_neg one_ne, fR_in_eq, bd_s]
    simp only [ix, if_false]
    rw [nI_clamp (by omega), ← q0, ← q3, ← q4, ← q5, ← q6]
    show ∃ o r ρ', (if b = 0 then _ else _) = _ ∧ _
    simp only [hlt, hlo, if_false]
    by_cases c : (0 : Int32) ≤ b ∧ b ≤ 4
    · rw [wi_t c, if_neg one_ne]
      obtain ⟨k, hk, rfl⟩ := wi_nat (n := 4) (by decide) c
      have : k = 0 ∨ k = 1 ∨ k = 2 ∨ k = 3 ∨ k = 4 := by omega
      rcases this with rfl | rfl | rfl | rfl | rfl
      · exact ret _
      · exact ret _
      · exact ret _
      · exact ret _
      · exact ret _
    · have n0 : ¬ b = 0 := fun e => c (by rw [e]; decide)
      have n1 : ¬ b = 1 := fun e => c (by rw [e]; decide)
      have n2 : ¬ b = 2 := fun e => c (by rw [e]; decide)
      have n3 : ¬ b = 3 := fun e => c (by rw [e]; decide)
      have n4 : ¬ b = 4 := fun e => c (by rw [e]; decide)
      rw [if_neg n0, if_neg n1, if_neg n2, if_neg n3, if_neg n4, wi_f c, if_pos rfl]
      exact thr
theorem known_loop {σ : SC} {ρ : SR} (hM : RMem σ ρ) (hE : REnt σ ρ) {i : Nat} (hi : i < xn σ 0) (mo kn : Int32) : ∀ (f e : Nat) (x : Int64), e ≤ xn σ 2 → xn σ 2 - e < f → ∃ y, fC_Le_sumKnown_L6 σ i mo kn f x (nI e) = some y ∧ fR_balance_L46 ρ (nI i) mo kn f x (nI e) = some y := by
  have h40 := hM.2.1
  have h900 := hE.2.1
  intro f
  induction f with
  | zero => intro e x _ q; omega
  | succ f ih =>
    intro e x he hf
    rw [fC_Le_sumKnown_L6, fR_balance_L46, hE.1]
    by_cases c : e = xn σ 2
    · rw [c, if_pos (nI_le (Nat.le_refl _) (by omega)), if_pos (nI_le (Nat.le_refl _) (by omega))]
      exact ⟨x, rfl, rfl⟩
    · have hlt : e < xn σ 2 := by omega
      obtain ⟨q1, q2, q3, q4, q5, q6⟩ := hE.2.2.1 e hlt
      have m1 : xm σ 0 (xo σ e) = nI (xo σ e) := (hM.2.2 _ q1).1
      have m2 : xm σ 0 i = nI i := (hM.2.2 _ hi).1
      rw [if_neg (nI_ge hlt (by omega)), if_neg (nI_ge hlt (by omega)), if_neg (ix_ok hlt (by omega)), if_neg (ix_ok (n := 900) (by omega) (by omega)), nI_clamp (by omega), if_neg (Nat.not_le.mpr q1), if_neg (Nat.not_le.mpr hi), nI_1, m1, m2, q2, q3, q5]
      have keep := ih (e + 1) x (by omega) (by omega)
      have take := ih (e + 1) (x + gg ρ e) (by omega) (by omega)
      unfold fC_En_isStruckBy
      rw [if_neg (Nat.not_le.mpr hlt), q6]
      by_cases c1 : nI (xo σ e) = nI i
      · rw [if_pos c1, if_pos c1]
        by_cases c2 : mo < gf ρ 23 e
        · rw [if_pos c2, if_pos c2, bd_s, bd_s]; exact keep
        · rw [if_neg c2, if_neg c2]
          by_cases c3 : gf ρ 26 e = -1
          · rw [if_pos c3, if_pos c3, bd_s, if_pos rfl, bd_s, bd_s]; exact take
          · rw [if_neg c3, if_neg c3]
            by_cases c4 : kn < gf ρ 26 e
            · rw [if_pos c4, if_neg (iNle.mpr c4), bd_s, if_pos rfl, bd_s, bd_s]; exact take
            · rw [if_neg c4, if_pos (iNlt.mp c4), bd_s, if_neg one_ne, bd_s, bd_s]; exact keep
      · rw [if_neg c1, if_neg c1, bd_s, bd_s]; exact keep
theorem eq_balance {σ : SC} {ρ : SR} (h0 : Rel σ ρ) (a b c : Int32) : ∃ o r ρ', fC_B_balance σ a b c = some o ∧ fR_balance ρ a b c = some (r, ρ') ∧ Rel σ ρ' ∧ ((o = none ∧ gz ρ' 31 = 1) ∨ (o = some r ∧ gz ρ' 31 = 0)) := by
  have h : Rel σ (pz ρ 31 0) := h0.thrown 0
  have e31 : gz (pz ρ 31 0) 31 = 0 := rfl
  unfold fC_B_balance fR_balance
  generalize pz ρ 31 0 = ρ1 at *
  have thr : ∃ o r ρ', some (none : Option Int64) = some o ∧ (some ((0 : Int64), pz ρ1 31 1) : Option (Int64 × SR)) = some (r, ρ') ∧ Rel σ ρ' ∧ ((o = none ∧ gz ρ' 31 = 1) ∨ (o = some r ∧ gz ρ' 31 = 0)) := ⟨none, 0, _, rfl, rfl, h.thrown 1, Or.inl ⟨rfl, rfl⟩⟩
  rcases findMember_cases h.2.2.2.2.1 a with ⟨e1, e2⟩ | ⟨i, hi, hi40, rfl, e1, e2⟩
  · rw [e1, e2, bd_s, bd_s, if_pos rfl]
    exact thr
  · rw [e1, e2, bd_s, bd_s, if_neg one_ne, fR_in_eq, bd_s]
    show ∃ o r ρ', Option.bind (fC_isWithin b 0 60) _ = _ ∧ _
    rw [fC_isWithin_eq, bd_s]
    by_cases c1 : (0 : Int32) ≤ b ∧ b ≤ 60
    · rw [wi_t c1, if_neg one_ne, if_neg one_ne, fC_isWithin_eq, fR_in_eq, bd_s, bd_s]
      by_cases c2 : (0 : Int32) ≤ c ∧ c ≤ 60
      · rw [wi_t c2, if_neg one_ne, if_neg one_ne]
        have h900 := h.2.2.2.2.2.2.1.2.1
        obtain ⟨y, f1, f2⟩ := known_loop h.2.2.2.2.1 h.2.2.2.2.2.2.1 hi b c 1000 0 0 (Nat.zero_le _) (by omega)
        rw [nI_0] at f1 f2
        show ∃ o r ρ', Option.bind (Option.bind (fC_Le_sumKnown_L6 σ i b c 1000 0 0) _) _ = _ ∧ _
        rw [f1, f2]
        exact ⟨some y, y, ρ1, rfl, rfl, h, Or.inr ⟨rfl, e31⟩⟩
      · rw [wi_f c2, if_pos rfl, if_pos rfl]
        exact thr
    · rw [wi_f c1, if_pos rfl, if_pos rfl]
      exact thr
