/-! PURE: judges -/
/-- how many of the first n judges have a number from lo on, below hi -/
def cnt (w : Nat → Nat) (lo hi : Nat) : Nat → Nat
  | 0 => 0
  | n + 1 => cnt w lo hi n + (if lo ≤ w n ∧ w n < hi then 1 else 0)
theorem cnt_le (w : Nat → Nat) (lo hi : Nat) : ∀ n, cnt w lo hi n ≤ n
  | 0 => Nat.le_refl _
  | n + 1 => by
    have := cnt_le w lo hi n
    rw [cnt]; split <;> omega
theorem cnt_split (w : Nat → Nat) {lo t : Nat} (h : lo ≤ t) : ∀ n, cnt w lo (t + 1) n = cnt w lo t n + cnt w t (t + 1) n
  | 0 => rfl
  | n + 1 => by
    rw [cnt, cnt, cnt, cnt_split w h n]
    by_cases c1 : lo ≤ w n ∧ w n < t
    · rw [if_pos (show lo ≤ w n ∧ w n < t + 1 by omega), if_pos c1, if_neg (by omega)]; omega
    · rw [if_neg c1]
      by_cases c2 : t ≤ w n ∧ w n < t + 1
      · rw [if_pos (show lo ≤ w n ∧ w n < t + 1 by omega), if_pos c2]; omega
      · rw [if_neg (show ¬ (lo ≤ w n ∧ w n < t + 1) by omega), if_neg c2]; omega
theorem cnt_empty (w : Nat → Nat) {lo hi : Nat} (h : hi ≤ lo) : ∀ n, cnt w lo hi n = 0
  | 0 => rfl
  | n + 1 => by rw [cnt, cnt_empty w h n, if_neg (by omega)]
theorem wi_cnt {u lo hi : Nat} (hu : u ≤ 100) (hl : lo ≤ 100) (hh : hi ≤ 100) : wi (nI u) (nI lo) (nI hi - 1) = if lo ≤ u ∧ u < hi then 1 else 0 := by
  have e : (nI hi - 1 : Int32).toInt = (hi : Int) - 1 := pk_sub_toInt (a := hi) (b := 1) (by omega) (by omega)
  by_cases c : lo ≤ u ∧ u < hi
  · rw [if_pos c]
    refine wi_t ⟨nI_le c.1 (by omega), ?_⟩
    rw [iLe, e, nI_toInt (by omega)]; omega
  · rw [if_neg c]
    refine wi_f (fun q => c ?_)
    have q1 := q.1
    have q2 := q.2
    rw [iLe, nI_toInt (by omega), nI_toInt (by omega)] at q1
    rw [iLe, e, nI_toInt (by omega)] at q2
    omega
/-- the number of a judge's mark that counts; 100 without one -/
def jw (ρ : SR) (b j : Nat) : Nat := if gf ρ 30 (20 * j + b) = 0 ∧ ¬ gf ρ 29 (20 * j + b) = -1 then (gf ρ 29 (20 * j + b)).toNatClampNeg else 100
theorem m20 (j b : Nat) : (20 : Int32) * nI j + nI b = nI (20 * j + b) := by rw [show (20 : Int32) * nI j = nI (20 * j) from pk_mul 20 j, nI_add]
theorem m20' (j b : Nat) : nI j * (20 : Int32) + nI b = nI (20 * j + b) := by rw [show nI j * (20 : Int32) = nI (j * 20) from pk_mul j 20, nI_add, Nat.mul_comm]
theorem marked_loop {σ : SC} {ρ : SR} (h : RJu σ ρ) {b lo hi : Nat} (hb : b < 20) (hl : lo ≤ 11) (hh : hi ≤ 11) : ∀ (f j : Nat), j ≤ 9 → 9 - j < f → fR_marked_L6 ρ (nI b) (nI lo) (nI hi - 1) f (nI (cnt (jw ρ b) lo hi j)) (nI j) = some (nI (cnt (jw ρ b) lo hi 9)) := by
  intro f
  induction f with
  | zero => intro j _ q; omega
  | succ f ih =>
    intro j hj hf
    rw [fR_marked_L6]
    by_cases c : j = 9
    · subst c
      rw [if_pos (by decide)]
    · rw [if_neg (show ¬ (9 : Int32) ≤ nI j from nI_ge (b := 9) (by omega) (by omega)), m20, if_neg (ix_ok (n := 180) (by omega) (by omega)), nI_clamp (by omega), nI_1 j]
      have r := ih (j + 1) (by omega) (by omega)
      rw [cnt] at r
      by_cases c1 : gf ρ 30 (20 * j + b) = 0
      · rw [if_pos c1]
        by_cases c2 : gf ρ 29 (20 * j + b) = -1
        · rw [if_pos c2, bd_s]
          rw [show jw ρ b j = 100 from if_neg (fun q => q.2 c2), if_neg (by omega)] at r
          exact r
        · rw [if_neg c2]
          obtain ⟨v, hv, ev⟩ := (h.2.2.1 (20 * j + b)).resolve_left c2
          have ew : jw ρ b j = v := (if_pos ⟨c1, c2⟩).trans (by rw [ev]; exact nI_clamp (by omega))
          rw [ew] at r
          rw [fR_in_eq, bd_s, ev, wi_cnt (by omega) (by omega) (by omega)]
          by_cases c3 : lo ≤ v ∧ v < hi
          · rw [if_pos c3, if_neg one_ne, bd_s, nI_1]
            rw [if_pos c3] at r
            exact r
          · rw [if_neg c3, if_pos rfl, bd_s]
            rw [if_neg c3] at r
            exact r
      · rw [if_neg c1, bd_s]
        rw [show jw ρ b j = 100 from if_neg (fun q => c1 q.1), if_neg (by omega)] at r
        exact r
theorem marked_eq {σ : SC} {ρ : SR} (h : RJu σ ρ) {b lo hi : Nat} (hb : b < 20) (hl : lo ≤ 11) (hh : hi ≤ 11) : fR_marked ρ (nI b) (nI lo) (nI hi - 1) = some (nI (cnt (jw ρ b) lo hi 9)) := by
  unfold fR_marked
  have := marked_loop h hb hl hh 1000 0 (by omega) (by omega)
  rw [show cnt (jw ρ b) lo hi 0 = 0 from rfl, nI_0] at this
  rw [this]
  rfl
/-! the class's row of tallies -/
theorem yF_yf (σ : SC) (k : Nat) (r : Nat → Int32) (i : Nat) (v : Int32) : yf (yF σ k r) k i v = yF σ k (upd r i v) := by
  unfold yf yF
  refine Prod.ext rfl (Prod.ext ?_ rfl)
  funext j
  by_cases e : j = k
  · subst e
    show va_up (va_up σ.2.1 j r) j (upd (va_up σ.2.1 j r j) i v) j = va_up σ.2.1 j (upd r i v) j
    rw [va_up_self, va_up_self, va_up_self]
  · show va_up (va_up σ.2.1 k r) k (upd (va_up σ.2.1 k r k) i v) j = va_up σ.2.1 k (upd r i v) j
    rw [va_up_ne _ _ e, va_up_ne _ _ e, va_up_ne _ _ e]
theorem yF_eta (σ : SC) (k : Nat) : yF σ k (xf σ k) = σ := by
  unfold yF
  refine Prod.ext rfl (Prod.ext ?_ rfl)
  funext j
  by_cases e : j = k
  · subst e; exact va_up_self _ _ _
  · exact va_up_ne _ _ e
theorem xf_yF (σ : SC) (k : Nat) (r : Nat → Int32) : xf (yF σ k r) k = r := va_up_self _ _ _
theorem yF_yF (σ : SC) (k : Nat) (r q : Nat → Int32) : yF (yF σ k r) k q = yF σ k q := by
  unfold yF
  refine Prod.ext rfl (Prod.ext ?_ rfl)
  funext j
  by_cases e : j = k
  · subst e; exact (va_up_self _ _ _).trans (va_up_self _ _ _).symm
  · exact (va_up_ne _ _ e).trans ((va_up_ne _ _ e).trans (va_up_ne _ _ e).symm)
theorem fill21_loop (σ : SC) (l : Int32) : ∀ (f i : Nat) (r : Nat → Int32), i ≤ 11 → 11 - i < f → (∀ j, j < i → r j = l) → ∃ q, fC_fill21_L5 l 11 f (nI i) (yF σ 9 r) = some (yF σ 9 q) ∧ ∀ j, j < 11 → q j = l := by
  intro f
  induction f with
  | zero => intro i r _ q; omega
  | succ f ih =>
    intro i r hi hf hr
    rw [fC_fill21_L5]
    by_cases c : i = 11
    · subst c
      rw [if_pos (by decide)]
      exact ⟨r, rfl, hr⟩
    · rw [if_neg (show ¬ (11 : Int32) ≤ nI i from nI_ge (b := 11) (by omega) (by omega)), if_neg (ix_ok (n := 11) (by omega) (by omega)), nI_clamp (by omega), nI_1, yF_yf]
      refine ih (i + 1) _ (by omega) (by omega) (fun j hj => ?_)
      by_cases e : j = i
      · subst e; exact pk_us
      · rw [pk_un e]; exact hr j (by omega)
theorem tally_loop {σ : SC} {ρ : SR} (h : RJu σ ρ) {b : Nat} (hb : b < 20) : ∀ (f j : Nat) (r : Nat → Int32), j ≤ 9 → 9 - j < f → (∀ v, v < 11 → r v = nI (cnt (jw ρ b) v (v + 1) j)) → ∃ q, fC_Ju_tallyMarks_L12 (nI b) f (nI (cnt (jw ρ b) 0 11 j)) (nI j) (yF σ 9 r) = some (nI (cnt (jw ρ b) 0 11 9), yF σ 9 q) ∧ ∀ v, v < 11 → q v = nI (cnt (jw ρ b) v (v + 1) 9) := by
  intro f
  induction f with
  | zero => intro j r _ q; omega
  | succ f ih =>
    intro j r hj hf hr
    rw [fC_Ju_tallyMarks_L12]
    by_cases c : j = 9
    · subst c
      rw [if_pos (by decide)]
      exact ⟨r, rfl, hr⟩
    · rw [if_neg (show ¬ (9 : Int32) ≤ nI j from nI_ge (b := 9) (by omega) (by omega)), show fCJu_placeOf (nI j) (nI b) = some (nI j * 20 + nI b) from rfl, bd_s, m20', if_neg (ix_ok (n := 180) (by omega) (by omega)), nI_clamp (by omega), bd_s, if_neg (ix_ok (n := 180) (by omega) (by omega)), nI_1 j]
      have x7 : xf (yF σ 9 r) 7 (20 * j + b) = gf ρ 29 (20 * j + b) := by
        show xf σ 7 (20 * j + b) = _
        rw [h.1]
      have x8 : xf (yF σ 9 r) 8 (20 * j + b) = gf ρ 30 (20 * j + b) := by
        show xf σ 8 (20 * j + b) = _
        rw [h.2.1]
      rw [nI_clamp (by omega), x7, x8, fC_isWithin_eq, bd_s]
      have keep : jw ρ b j = 100 → ∃ q, fC_Ju_tallyMarks_L12 (nI b) f (nI (cnt (jw ρ b) 0 11 j)) (nI (j + 1)) (yF σ 9 r) = some (nI (cnt (jw ρ b) 0 11 9), yF σ 9 q) ∧ ∀ v, v < 11 → q v = nI (cnt (jw ρ b) v (v + 1) 9) := by
        intro ew
        have r1 := ih (j + 1) r (by omega) (by omega) (fun v hv => by rw [cnt, ew, if_neg (by omega)]; exact hr v hv)
        rw [show cnt (jw ρ b) 0 11 (j + 1) = cnt (jw ρ b) 0 11 j by rw [cnt, ew, if_neg (by omega)]; rfl] at r1
        exact r1
      rcases h.2.2.1 (20 * j + b) with e | ⟨v, hv, e⟩
      · rw [e, wi_f (fun q => absurd q.1 (by decide)), if_pos rfl, bd_s]
        exact keep (if_neg (fun q => q.2 e))
      · rw [e, wi_t (show (0 : Int32) ≤ nI v ∧ nI v ≤ 10 from ⟨nI_pos' (by omega), nI_le (b := 10) hv (by omega)⟩), if_neg one_ne]
        by_cases c1 : gf ρ 30 (20 * j + b) = 0
        · rw [if_pos c1, if_neg (ix_ok (n := 11) (by omega) (by omega)), nI_clamp (by omega), bd_s, yF_yf, xf_yF, nI_1]
          have c2 : ¬ gf ρ 29 (20 * j + b) = -1 := by rw [e]; exact nI_neg1 v (by omega)
          have ew : jw ρ b j = v := (if_pos ⟨c1, c2⟩).trans (by rw [e]; exact nI_clamp (by omega))
          have r1 := ih (j + 1) (upd r v (r v + 1)) (by omega) (by omega) (fun u hu => by
            rw [cnt, ew]
            by_cases eu : u = v
            · subst eu; rw [pk_us, hr u hu, nI_1, if_pos (by omega)]
            · rw [pk_un eu, hr u hu, if_neg (by omega)]; rfl)
          rw [show cnt (jw ρ b) 0 11 (j + 1) = cnt (jw ρ b) 0 11 j + 1 by rw [cnt, ew, if_pos (by omega)]] at r1
          exact r1
        · rw [if_neg c1, bd_s]
          exact keep (if_neg (fun q => c1 q.1))
theorem tally_eq {σ : SC} {ρ : SR} (h : RJu σ ρ) {b : Nat} (hb : b < 20) : ∃ q, fC_Ju_tallyMarks σ (nI b) = some (nI (cnt (jw ρ b) 0 11 9), yF σ 9 q) ∧ ∀ v, v < 11 → q v = nI (cnt (jw ρ b) v (v + 1) 9) := by
  unfold fC_Ju_tallyMarks fC_fill21
  obtain ⟨r, e1, hr⟩ := fill21_loop σ 0 1000 0 (xf σ 9) (by omega) (by omega) (fun j hj => by omega)
  rw [nI_0, yF_eta] at e1
  rw [e1, bd_s, bd_s]
  obtain ⟨q, e2, hq⟩ := tally_loop (σ := σ) h hb 1000 0 r (by omega) (by omega) (fun v hv => by rw [hr v hv]; rfl)
  rw [show cnt (jw ρ b) 0 11 0 = 0 from rfl, nI_0] at e2
  rw [e2]
  exact ⟨q, rfl, hq⟩
theorem mid_loop {σ : SC} {ρ : SR} (h : RJu σ ρ) {b a : Nat} (hb : b < 20) (ha : cnt (jw ρ b) 0 11 9 = a) (h0 : 0 < a) {q : Nat → Int32} (hq : ∀ v, v < 11 → q v = nI (cnt (jw ρ b) v (v + 1) 9)) : ∀ (f t : Nat), t ≤ 10 → 11 - t < f → ∃ v : Nat, v ≤ 10 ∧ fC_Ju_middleOf_L26 (yF σ 9 q) (nI a) f (nI (cnt (jw ρ b) 0 t 9)) (nI t) = some (Sum.inr (nI v, yF σ 9 q)) ∧ fR_middleOf_L17 ρ (nI b) (nI a) f (nI t) = some (nI v) := by
  have ha9 : a ≤ 9 := by rw [← ha]; exact cnt_le _ _ _ _
  have ediv : (nI a - 1) / 2 = nI ((a - 1) / 2) := by
    have e1 : nI a - 1 = nI (a - 1) := by
      have := nI_pred (a - 1)
      rw [show a - 1 + 1 = a by omega] at this
      exact this
    rw [e1]
    exact pk_div (a := a - 1) (d := 2) (by omega) (by omega) (by omega)
  intro f
  induction f with
  | zero => intro t _ q; omega
  | succ f ih =>
    intro t ht hf
    rw [fC_Ju_middleOf_L26, fR_middleOf_L17]
    have es : cnt (jw ρ b) 0 (t + 1) 9 = cnt (jw ρ b) 0 t 9 + cnt (jw ρ b) t (t + 1) 9 := cnt_split _ (Nat.zero_le _) 9
    have em := marked_eq h hb (lo := 0) (hi := t + 1) (by omega) (by omega)
    rw [nI_pred, nI_0] at em
    have l1 := cnt_le (jw ρ b) 0 (t + 1) 9
    rw [if_neg (show ¬ (10 : Int32) < nI t from nI_nlt (a := 10) (b := t) ht (by omega)), if_neg (ix_ok (n := 11) (by omega) (by omega)), nI_clamp (by omega), xf_yF, hq t (by omega), nI_add, ← es, em, bd_s, ediv]
    by_cases c : cnt (jw ρ b) 0 (t + 1) 9 ≤ (a - 1) / 2
    · have ht9 : t ≠ 10 := fun e => by
        subst e
        have c' : cnt (jw ρ b) 0 11 9 ≤ (a - 1) / 2 := c
        rw [ha] at c'
        omega
      rw [if_pos (nI_le c (by omega)), if_neg (nI_nlt c (by omega)), nI_1]
      exact ih (t + 1) (by omega) (by omega)
    · rw [if_neg (nI_ge (by omega) (by omega)), if_pos (nI_lt (by omega) (by omega))]
      exact ⟨t, ht, rfl, rfl⟩
/-- the middle: the same on both sides; the row of tallies stands -/
theorem mid_eq {σ : SC} {ρ : SR} (h : RJu σ ρ) {b : Nat} (hb : b < 20) : ∃ (q : Nat → Int32) (x : Int32), fC_Ju_middleOf σ (nI b) = some (x, yF σ 9 q) ∧ fR_middleOf ρ (nI b) = some x ∧ (∀ v, v < 11 → q v = nI (cnt (jw ρ b) v (v + 1) 9)) ∧ (x = -1 ∨ ∃ v : Nat, v ≤ 10 ∧ x = nI v) := by
  obtain ⟨q, e, hq⟩ := tally_eq (σ := σ) h hb
  unfold fC_Ju_middleOf fR_middleOf
  have em := marked_eq h hb (lo := 0) (hi := 11) (by omega) (by omega)
  rw [nI_0, show nI 11 - 1 = (10 : Int32) by decide] at em
  have l1 := cnt_le (jw ρ b) 0 11 9
  rw [isBook_eq, bd_s, wi_t (show (0 : Int32) ≤ nI b ∧ nI b ≤ 19 from ⟨nI_pos' (by omega), nI_le (b := 19) (by omega) (by omega)⟩), if_neg one_ne, e, bd_s, em, bd_s]
  by_cases c : cnt (jw ρ b) 0 11 9 = 0
  · rw [c, if_pos nI_0, if_pos nI_0]
    exact ⟨q, -1, rfl, rfl, hq, Or.inl rfl⟩
  · rw [if_neg (nI_ne0 (by omega) (by omega)), if_neg (nI_ne0 (by omega) (by omega))]
    obtain ⟨v, hv, e1, e2⟩ := mid_loop (σ := σ) h hb rfl (by omega) hq 1000 0 (by omega) (by omega)
    rw [cnt_empty _ (Nat.le_refl _), nI_0] at e1
    rw [nI_0] at e2
    rw [e1, e2]
    exact ⟨q, nI v, rfl, rfl, hq, Or.inr ⟨v, hv, rfl⟩⟩
theorem Rel.row {σ : SC} {ρ : SR} (h : Rel σ ρ) (q : Nat → Int32) : Rel (yF σ 9 q) ρ := ⟨h.1, h.2.1, h.2.2.1, h.2.2.2.1, h.2.2.2.2.1, h.2.2.2.2.2.1, h.2.2.2.2.2.2.1, h.2.2.2.2.2.2.2.1, h.2.2.2.2.2.2.2.2⟩
theorem eq_middle {σ : SC} {ρ : SR} (h0 : Rel σ ρ) (a : Int32) : ∃ r σ' ρ', fC_B_middle σ a = some (r, σ') ∧ fR_middle ρ a = some (r, ρ') ∧ Rel σ' ρ' := by
  have h := h0.thrown 0
  unfold fC_B_middle fR_middle
  generalize pz ρ 31 0 = ρ1 at *
  rw [fR_in_eq, bd_s]
  by_cases c : (0 : Int32) ≤ a ∧ a ≤ 19
  · obtain ⟨b, hb, rfl⟩ := wi_nat (n := 19) (by decide) c
    obtain ⟨q, x, e1, e2, -⟩ := mid_eq (σ := σ) h.2.2.2.2.2.2.2.2 (b := b) (by omega)
    rw [wi_t c, if_neg one_ne, e1, e2]
    exact ⟨x, _, _, rfl, rfl, h.row q⟩
  · unfold fC_Ju_middleOf
    rw [isBook_eq, wi_f c, if_pos rfl]
    exact ⟨-1, _, _, rfl, rfl, h⟩
theorem sub3 (a b c : Nat) : nI a - nI b - nI c = nI a - nI (b + c) := by
  rw [← nI_add, Int32.sub_sub]
theorem sub3' (a b c : Nat) : nI a - nI b + nI c = nI (a + c) - nI b := by
  rw [← nI_add, Int32.sub_eq_add_neg, Int32.sub_eq_add_neg, Int32.add_assoc, Int32.add_comm (-nI b), ← Int32.add_assoc]
theorem lead_loop {σ : SC} {w : Nat → Nat} {q : Nat → Int32} (hq : ∀ v, v < 11 → q v = nI (cnt w v (v + 1) 9)) {m : Nat} (hm : m ≤ 10) : ∀ (f t : Nat), t ≤ 11 → 11 - t < f → fC_Ju_leadOver_L4 (yF σ 9 q) (nI m) f (nI (cnt w (m + 1) t 9) - nI (cnt w 0 (min t m) 9)) (nI t) = some (nI (cnt w (m + 1) 11 9) - nI (cnt w 0 m 9)) := by
  intro f
  induction f with
  | zero => intro t _ q; omega
  | succ f ih =>
    intro t ht hf
    rw [fC_Ju_leadOver_L4]
    by_cases c : t = 11
    · subst c
      rw [if_pos (by decide), Nat.min_eq_right (by omega)]
    · have r := ih (t + 1) (by omega) (by omega)
      rw [if_neg (show ¬ (10 : Int32) < nI t from nI_nlt (a := 10) (b := t) (by omega) (by omega)), nI_1 t]
      by_cases c1 : t ≤ m
      · rw [if_pos (nI_le c1 (by omega)), cnt_empty w (show t ≤ m + 1 by omega), Nat.min_eq_left c1]
        rw [cnt_empty w (show t + 1 ≤ m + 1 by omega)] at r
        by_cases c2 : t = m
        · subst c2
          rw [if_pos (nI_le (Nat.le_refl _) (by omega)), bd_s]
          rw [Nat.min_eq_right (by omega)] at r
          exact r
        · rw [if_neg (nI_ge (by omega) (by omega)), if_neg (ix_ok (n := 11) (by omega) (by omega)), nI_clamp (by omega), xf_yF, hq t (by omega), bd_s, sub3, ← cnt_split w (Nat.zero_le _)]
          rw [Nat.min_eq_left (by omega)] at r
          exact r
      · rw [if_neg (nI_ge (by omega) (by omega)), if_neg (ix_ok (n := 11) (by omega) (by omega)), nI_clamp (by omega), xf_yF, hq t (by omega), bd_s, sub3', ← cnt_split w (show m + 1 ≤ t by omega), Nat.min_eq_right (by omega)]
        rw [Nat.min_eq_right (by omega)] at r
        exact r
theorem lead_eq {σ : SC} {w : Nat → Nat} {q : Nat → Int32} (hq : ∀ v, v < 11 → q v = nI (cnt w v (v + 1) 9)) {m : Nat} (hm : m ≤ 10) : fC_Ju_leadOver (yF σ 9 q) (nI m) = some (nI (cnt w (m + 1) 11 9) - nI (cnt w 0 m 9)) := by
  unfold fC_Ju_leadOver
  have := lead_loop (σ := σ) hq hm 1000 0 (by omega) (by omega)
  rw [cnt_empty w (Nat.zero_le _), Nat.zero_min, cnt_empty w (Nat.le_refl _), nI_0, show (0 - 0 : Int32) = 0 by decide] at this
  rw [this]
  rfl
/-- where no mark counts the lead is some number -/
theorem lead_none {σ : SC} {q : Nat → Int32} : ∀ (f t : Nat) (x : Int32), t ≤ 11 → 11 - t < f → ∃ y, fC_Ju_leadOver_L4 (yF σ 9 q) (-1) f x (nI t) = some y := by
  intro f
  induction f with
  | zero => intro t x _ q; omega
  | succ f ih =>
    intro t x ht hf
    rw [fC_Ju_leadOver_L4]
    by_cases c : t = 11
    · subst c
      rw [if_pos (by decide)]
      exact ⟨x, rfl⟩
    · rw [if_neg (show ¬ (10 : Int32) < nI t from nI_nlt (a := 10) (b := t) (by omega) (by omega)), nI_1 t]
      have hn : ¬ nI t ≤ (-1 : Int32) := fun q => by
        rw [iLe, nI_toInt (by omega), show (-1 : Int32).toInt = -1 by decide] at q
        omega
      rw [if_neg hn, if_neg (ix_ok (n := 11) (by omega) (by omega)), bd_s]
      exact ih (t + 1) _ (by omega) (by omega)
theorem win_loop {σ : SC} {ρ : SR} (h : RJu σ ρ) : ∀ (f b : Nat) (best bm ld : Int32) (r : Nat → Int32), b ≤ 20 → 20 - b < f → ((best = -1 ∧ bm = -1) ∨ ∃ c v : Nat, c < 20 ∧ v ≤ 10 ∧ best = nI c ∧ bm = nI v ∧ fR_middleOf ρ (nI c) = some (nI v)) →
    ∃ x q, fC_Ju_bestBook_L9 f best bm ld (nI b) (yF σ 9 r) = some (x, yF σ 9 q) ∧ fR_winner_L11 ρ f best ld (nI b) = some x := by
  intro f
  induction f with
  | zero => intro b best bm ld r _ q; omega
  | succ f ih =>
    intro b best bm ld r hb hf hinv
    rw [fC_Ju_bestBook_L9, fR_winner_L11]
    by_cases c : b = 20
    · subst c
      rw [if_pos (by decide), if_pos (by decide)]
      exact ⟨best, r, rfl, rfl⟩
    · rw [if_neg (show ¬ (20 : Int32) ≤ nI b from nI_ge (b := 20) (by omega) (by omega)), if_neg (show ¬ (20 : Int32) ≤ nI b from nI_ge (b := 20) (by omega) (by omega))]
      obtain ⟨q, x, e1, e2, hq, hx⟩ := mid_eq (σ := yF σ 9 r) h (b := b) (by omega)
      rw [yF_yF] at e1
      rw [e1, bd_s, e2, bd_s, nI_1]
      have keep := ih (b + 1) best bm ld q (by omega) (by omega) hinv
      rcases hx with rfl | ⟨v, hv, rfl⟩
      · obtain ⟨y, ey⟩ := lead_none (σ := σ) (q := q) 1000 0 0 (by omega) (by omega)
        rw [nI_0] at ey
        have ey' : fC_Ju_leadOver (yF σ 9 q) (-1) = some y := by unfold fC_Ju_leadOver; rw [ey]; rfl
        have hbm : ¬ bm < -1 := by
          rcases hinv with ⟨-, rfl⟩ | ⟨c, v, -, hv, -, rfl, -⟩
          · decide
          · intro q
            rw [iLt, nI_toInt (by omega), show (-1 : Int32).toInt = -1 by decide] at q
            omega
        show ∃ x q_1, Option.bind (fC_Ju_leadOver (yF σ 9 q) (-1)) _ = _ ∧ _
        rw [ey', bd_s, if_neg (show ¬ bm < ((-1 : Int32), yF σ 9 q).1 from hbm), if_pos rfl, if_pos rfl, bd_s, bd_s]
        exact keep
      · have el := lead_eq (σ := σ) hq hv
        have m1 := marked_eq h (b := b) (lo := v + 1) (hi := 11) (by omega) (by omega) (by omega)
        have m2 := marked_eq h (b := b) (lo := 0) (hi := v) (by omega) (by omega) (by omega)
        rw [show nI 11 - 1 = (10 : Int32) by decide] at m1
        rw [nI_0] at m2
        have n1 : ¬ nI v = (-1 : Int32) := nI_neg1 v (by omega)
        show ∃ x q_1, Option.bind (fC_Ju_leadOver (yF σ 9 q) (nI v)) _ = _ ∧ _
        rw [el, bd_s, if_neg n1, if_neg n1, nI_1, m1, bd_s, m2, bd_s]
        generalize nI (cnt (jw ρ b) (v + 1) 11 9) - nI (cnt (jw ρ b) 0 v 9) = L at *
        have take := ih (b + 1) (nI b) (nI v) L q (by omega) (by omega) (Or.inr ⟨b, v, by omega, hv, rfl, rfl, e2⟩)
        rcases hinv with ⟨rfl, rfl⟩ | ⟨c, v', hc, hv', rfl, rfl, ec⟩
        · have l1 : (-1 : Int32) < nI v := by rw [iLt, nI_toInt (by omega), show (-1 : Int32).toInt = -1 by decide]; omega
          rw [if_pos l1, if_pos rfl, bd_s, bd_s]
          exact take
        · have n2 : ¬ nI c = (-1 : Int32) := nI_neg1 c (by omega)
          rw [if_neg n2, ec, bd_s, bd_s]
          by_cases c1 : v' < v
          · rw [if_pos (nI_lt c1 (by omega)), if_neg (nI_nlt (by omega) (by omega)), if_neg (fun e => by have := (nI_eq (by omega) (by omega)).mp e; omega), bd_s, bd_s]
            exact take
          · rw [if_neg (nI_nlt (by omega) (by omega))]
            by_cases c2 : v = v'
            · subst c2
              rw [if_pos rfl, if_neg (nI_nlt (Nat.le_refl _) (by omega)), if_pos rfl]
              by_cases c3 : L ≤ ld
              · rw [if_pos c3, if_neg (iNlt.mpr c3), bd_s, bd_s]
                exact keep
              · rw [if_neg c3, if_pos (iNle.mp c3), bd_s, bd_s]
                exact take
            · rw [if_neg (fun e => c2 ((nI_eq (by omega) (by omega)).mp e)), if_pos (nI_lt (by omega) (by omega)), bd_s, bd_s]
              exact keep
theorem eq_winner {σ : SC} {ρ : SR} (h0 : Rel σ ρ) : ∃ r σ' ρ', fC_B_winner σ = some (r, σ') ∧ fR_winner ρ = some (r, ρ') ∧ Rel σ' ρ' := by
  have h := h0.thrown 0
  unfold fC_B_winner fC_Ju_bestBook fR_winner
  generalize pz ρ 31 0 = ρ1 at *
  obtain ⟨x, q, e1, e2⟩ := win_loop (σ := σ) h.2.2.2.2.2.2.2.2 1000 0 (-1) (-1) 0 (xf σ 9) (by omega) (by omega) (Or.inl ⟨rfl, rfl⟩)
  rw [nI_0, yF_eta] at e1
  rw [nI_0] at e2
  rw [e1, e2]
  exact ⟨x, _, _, rfl, rfl, h.row q⟩
