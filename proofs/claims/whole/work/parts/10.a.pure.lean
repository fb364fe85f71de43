/-! PURE: class and reference in one relation; each call answers alike and keeps it -/
theorem iLt (a b : Int32) : a < b ↔ a.toInt < b.toInt := Int32.lt_iff_toInt_lt
theorem iLe (a b : Int32) : a ≤ b ↔ a.toInt ≤ b.toInt := Int32.le_iff_toInt_le
theorem iNlt {a b : Int32} : ¬ a < b ↔ b ≤ a := by rw [iLt, iLe]; omega
theorem iNle {a b : Int32} : ¬ a ≤ b ↔ b < a := by rw [iLt, iLe]; omega
/-- within, as a number -/
def wi (v lo hi : Int32) : Int32 := if lo ≤ v ∧ v ≤ hi then 1 else 0
theorem wi_t {v lo hi : Int32} (h : lo ≤ v ∧ v ≤ hi) : wi v lo hi = 1 := if_pos h
theorem wi_f {v lo hi : Int32} (h : ¬ (lo ≤ v ∧ v ≤ hi)) : wi v lo hi = 0 := if_neg h
theorem fR_in_eq (v lo hi : Int32) : fR_in v lo hi = some (wi v lo hi) := by
  unfold fR_in wi
  by_cases h1 : v < lo
  · rw [if_pos h1, if_neg (fun h => absurd h.1 (iNle.mpr h1))]
  · rw [if_neg h1]
    by_cases h2 : hi < v
    · rw [if_pos h2, if_neg (fun h => absurd h.2 (iNle.mpr h2))]
    · rw [if_neg h2, if_pos ⟨iNlt.mp h1, iNlt.mp h2⟩]
theorem fC_isWithin_eq (v lo hi : Int32) : fC_isWithin v lo hi = some (wi v lo hi) := fR_in_eq v lo hi
theorem wi_01 (v lo hi : Int32) : wi v lo hi = 0 ∨ wi v lo hi = 1 := by unfold wi; split <;> simp
theorem isHouse_eq (v : Int32) : fC_Cl_isHouse v = some (wi v 0 9) := by unfold fC_Cl_isHouse; rw [fC_isWithin_eq]; exact if_pos (wi_01 _ _ _)
theorem isKind_eq (v : Int32) : fC_Ch_isKind v = some (wi v 0 3) := by unfold fC_Ch_isKind; rw [fC_isWithin_eq]; exact if_pos (wi_01 _ _ _)
theorem isBook_eq (v : Int32) : fC_Ju_isBook v = some (wi v 0 19) := by unfold fC_Ju_isBook; rw [fC_isWithin_eq]; exact if_pos (wi_01 _ _ _)
/-- a number within 0 .. n is a natural one -/
theorem wi_nat {v hi : Int32} {n : Nat} (hn : hi.toInt = n) (h : (0 : Int32) ≤ v ∧ v ≤ hi) : ∃ j : Nat, j ≤ n ∧ v = nI j := nI_of2 hn (iNlt.mpr h.1) h.2
theorem ix_ok {j n : Nat} (h : j < n) (hn : n < 2 ^ 31) : ¬ (nI j < 0 ∨ n ≤ (nI j).toNatClampNeg) := nI_in h hn
def RTape (σ : SC) (ρ : SR) : Prop := xf σ 0 = gf ρ 0 ∧ xz σ 0 = gz ρ 1 ∧ ∃ n : Nat, n ≤ 200 ∧ gz ρ 1 = nI n ∧ ∀ i, ¬ gf ρ 0 i = -1
def RRule (σ : SC) (ρ : SR) : Prop := xz σ 2 = 0 ∧ xz σ 1 = gz ρ 7 ∧ ∃ r : Nat, r ≤ 60 ∧ gz ρ 7 = nI r ∧ ∀ i, i < r → xf σ 1 i = gf ρ 4 i ∧ xf σ 2 i = gf ρ 5 i ∧ xf σ 3 i = gf ρ 6 i ∧ (∃ v : Nat, v ≤ 10000 ∧ gf ρ 5 i = nI v) ∧ ∃ m : Nat, m ≤ 60 ∧ gf ρ 6 i = nI m
def RFault (σ : SC) (ρ : SR) : Prop := xz σ 4 = gz ρ 2 ∧ xz σ 5 = gz ρ 3
def RHouse (σ : SC) (ρ : SR) : Prop := xf σ 4 = gf ρ 8 ∧ xf σ 5 = gf ρ 9 ∧ (∀ i, ∃ v : Nat, v ≤ 20 ∧ gf ρ 8 i = nI v) ∧ ∀ i, gf ρ 9 i = 0 ∨ gf ρ 9 i = 1
def RM1 (i : Nat) (m r : Nat → Int32) : Prop := m 0 = nI i ∧ m 1 = r 10 ∧ m 2 = r 11 ∧ m 3 = r 12 ∧ m 4 = r 13 ∧ m 5 = r 14 ∧ m 7 = r 15 ∧ m 8 = r 16 ∧ m 9 = r 17 ∧ m 10 = (if r 16 = 0 then 0 else r 18) ∧ (r 16 = 0 ∨ r 16 = 1) ∧ (r 17 = 0 ∨ r 17 = 1) ∧ (r 18 = 0 ∨ r 18 = 1) ∧ (∃ h : Nat, h ≤ 9 ∧ r 11 = nI h) ∧ (r 12 = 0 ∨ r 12 = 1 ∨ r 12 = 2)
def RMem (σ : SC) (ρ : SR) : Prop := gz ρ 19 = nI (xn σ 0) ∧ xn σ 0 ≤ 40 ∧ ∀ i, i < xn σ 0 → RM1 i (fun k => xm σ k i) (fun k => gf ρ k i)
/-- the month; its choices cell by cell; prices; nothing of months to come -/
def RMo0 (σ : SC) (ρ : SR) : Prop := xz σ 6 = gz ρ 20 ∧ gz ρ 20 = nI (xn σ 3) ∧ xn σ 3 ≤ 60 ∧ xn σ 1 = xn σ 3 + 1 ∧ (∀ j k, j ≤ xn σ 3 → k < 8 → xc σ k j = gf ρ 21 (8 * j + k)) ∧ (∀ i, 8 * xn σ 3 + 8 ≤ i → gf ρ 21 i = 0) ∧ ∀ j, j ≤ xn σ 3 → ∃ v : Nat, v ≤ 5000 ∧ gf ρ 21 (8 * j) = nI v
/-- stock: at most what was printed and what came back -/
def RSt (c : Nat) (σ : SC) (ρ : SR) : Prop := ∀ j, j ≤ xn σ 3 → ∃ pr st : Nat, pr ≤ 5000 ∧ st ≤ pr + 40 * (xn σ 3 - j) + c ∧ gf ρ 21 (8 * j + 1) = nI pr ∧ gf ρ 21 (8 * j + 2) = nI st
def RSe (k : Nat) (σ : SC) (ρ : SR) : Prop := gf ρ 21 (8 * xn σ 3 + 3) = nI k
def RMon (c k : Nat) (σ : SC) (ρ : SR) : Prop := RMo0 σ ρ ∧ RSt c σ ρ ∧ RSe k σ ρ
/-- what stands to a member's account: the sum over the first n entries -/
def sumE (g : Nat → Int64) (p : Nat → Bool) : Nat → Int64
  | 0 => 0
  | n + 1 => if p n then sumE g p n + g n else sumE g p n
def pE (ρ : SR) (i : Nat) : Nat → Bool := fun e => decide (gf ρ 22 e = nI i ∧ gf ρ 26 e = -1)
def REnt (σ : SC) (ρ : SR) : Prop := gz ρ 27 = nI (xn σ 2) ∧ xn σ 2 ≤ 900 ∧ (∀ e, e < xn σ 2 → xo σ e < xn σ 0 ∧ gf ρ 22 e = nI (xo σ e) ∧ xe σ 1 e = gf ρ 23 e ∧ xe σ 2 e = gf ρ 24 e ∧ xa σ e = gg ρ e ∧ xe σ 4 e = gf ρ 26 e) ∧ ∀ i, i < xn σ 0 → xb σ i = sumE (gg ρ) (pE ρ i) (xn σ 2)
def RCh (σ : SC) (ρ : SR) : Prop := xf σ 6 = gf ρ 28 ∧ ∀ i, ∃ v : Nat, v ≤ 100 ∧ gf ρ 28 i = nI v
def RJu (σ : SC) (ρ : SR) : Prop := xf σ 7 = gf ρ 29 ∧ xf σ 8 = gf ρ 30 ∧ (∀ i, gf ρ 29 i = -1 ∨ ∃ v : Nat, v ≤ 10 ∧ gf ρ 29 i = nI v) ∧ ∀ i, gf ρ 30 i = 0 ∨ gf ρ 30 i = 1
def RelC (c k : Nat) (σ : SC) (ρ : SR) : Prop := RTape σ ρ ∧ RRule σ ρ ∧ RFault σ ρ ∧ RHouse σ ρ ∧ RMem σ ρ ∧ RMon c k σ ρ ∧ REnt σ ρ ∧ RCh σ ρ ∧ RJu σ ρ
def Rel (σ : SC) (ρ : SR) : Prop := RelC 0 0 σ ρ
/-- the reference notes that nothing was thrown -/
theorem REnt.z {σ : SC} {ρ : SR} (h : REnt σ ρ) (k : Nat) (v : Int32) (hk : k ≠ 27) : REnt σ (pz ρ k v) :=
  ⟨by rw [← h.1]; exact if_neg (Ne.symm hk), h.2.1, h.2.2.1, h.2.2.2⟩
theorem Rel.thrown {σ : SC} {ρ : SR} (h : Rel σ ρ) (v : Int32) : Rel σ (pz ρ 31 v) := ⟨h.1, h.2.1, h.2.2.1, h.2.2.2.1, h.2.2.2.2.1, h.2.2.2.2.2.1, h.2.2.2.2.2.2.1.z 31 v (by decide), h.2.2.2.2.2.2.2.1, h.2.2.2.2.2.2.2.2⟩
theorem eq_fault {σ : SC} {ρ : SR} (h : Rel σ ρ) (a : Int32) : ∃ r ρ', fC_B_fault σ a = some r ∧ fR_fault ρ a = some (r, ρ') ∧ Rel σ ρ' := by
  have h1 : xz σ 4 = gz ρ 2 := h.2.2.1.1
  have h2 : xz σ 5 = gz ρ 3 := h.2.2.1.2
  unfold fC_B_fault fR_fault
  by_cases h0 : a = 0
  · rw [if_pos h0, if_pos h0, h1]; exact ⟨_, _, rfl, rfl, h.thrown 0⟩
  · rw [if_neg h0, if_neg h0]
    by_cases h3 : a = 1
    · rw [if_pos h3, if_pos h3, h2]; exact ⟨_, _, rfl, rfl, h.thrown 0⟩
    · rw [if_neg h3, if_neg h3]; exact ⟨_, _, rfl, rfl, h.thrown 0⟩
theorem cutTo_eq (σ : SC) (a : Int32) : fC_Ta_cutTo σ a = if (0 : Int32) ≤ a ∧ a ≤ xz σ 0 then some (1, yz σ 0 a) else some (0, σ) := by
  unfold fC_Ta_cutTo
  rw [fC_isWithin_eq]
  by_cases c : (0 : Int32) ≤ a ∧ a ≤ xz σ 0
  · rw [wi_t c, if_pos c]; rfl
  · rw [wi_f c, if_neg c]; rfl
theorem eq_end {σ : SC} {ρ : SR} (h : Rel σ ρ) (a : Int32) : ∃ r σ' ρ', fC_B_end σ a = some (r, σ') ∧ fR_end ρ a = some (r, ρ') ∧ Rel σ' ρ' := by
  obtain ⟨n, hn, e, htp⟩ := h.1.2.2
  have hz : xz σ 0 = gz ρ 1 := h.1.2.1
  unfold fC_B_end fR_end
  rw [cutTo_eq, hz]
  have e31 : gz (pz ρ 31 0) 1 = gz ρ 1 := rfl
  rw [e31]
  by_cases c0 : a < 0
  · rw [if_pos c0, if_neg (fun q => absurd q.1 (iNle.mpr c0))]
    exact ⟨_, _, _, rfl, rfl, h.thrown 0⟩
  · rw [if_neg c0]
    by_cases c1 : a ≤ gz ρ 1
    · rw [if_pos c1, if_pos ⟨iNlt.mp c0, c1⟩]
      refine ⟨1, yz σ 0 a, pz (pz ρ 31 0) 1 a, rfl, rfl, ?_⟩
      have h' := h.thrown 0
      refine ⟨⟨h.1.1, rfl, ?_⟩, h'.2.1, h'.2.2.1, h'.2.2.2.1, h'.2.2.2.2.1, h'.2.2.2.2.2.1, h'.2.2.2.2.2.2.1.z 1 a (by decide), h'.2.2.2.2.2.2.2.1, h'.2.2.2.2.2.2.2.2⟩
      rw [e] at c1
      obtain ⟨j, hj, ej⟩ := nI_of2 (nI_toInt (by omega)) c0 c1
      exact ⟨j, by omega, ej, htp⟩
    · rw [if_neg c1, if_neg (fun q => c1 q.2)]
      exact ⟨_, _, _, rfl, rfl, h.thrown 0⟩
