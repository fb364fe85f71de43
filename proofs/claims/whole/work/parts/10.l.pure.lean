/-! PURE: texts of rules: two readers -/
def rowOk (σ : SC) (ρ : SR) (i : Nat) : Prop := xf σ 1 i = gf ρ 4 i ∧ xf σ 2 i = gf ρ 5 i ∧ xf σ 3 i = gf ρ 6 i ∧ (∃ v : Nat, v ≤ 10000 ∧ gf ρ 5 i = nI v) ∧ ∃ m : Nat, m ≤ 60 ∧ gf ρ 6 i = nI m
def Rest (σ : SC) (ρ : SR) : Prop := RHouse σ ρ ∧ RMem σ ρ ∧ RMon 0 0 σ ρ ∧ REnt σ ρ ∧ RCh σ ρ ∧ RJu σ ρ
/-- what stands while a text is read -/
def RG (tp : Nat → Int32) (c z : Nat) (σ : SC) (ρ : SR) : Prop := xf σ 0 = tp ∧ gf ρ 0 = tp ∧ xz σ 0 = nI z ∧ gz ρ 33 = nI z ∧ gz ρ 1 = 0 ∧ xz σ 1 = nI c ∧ gz ρ 7 = nI c ∧ (∀ i, i < c → rowOk σ ρ i) ∧ Rest σ ρ
def PR (tp : Nat → Int32) (c z r a : Nat) (σ : SC) (ρ : SR) : Prop := RG tp c z σ ρ ∧ (xz σ 4 = 0 ∧ xz σ 5 = 0 ∧ gz ρ 2 = 0 ∧ gz ρ 3 = 0) ∧ xz σ 3 = nI a ∧ gz ρ 32 = nI a ∧ a ≤ z ∧ z ≤ 200 ∧ c ≤ r ∧ r ≤ 60 ∧ xz σ 2 = nI (r - c) ∧ ∀ i, i < r → rowOk σ ρ i
def FR (tp : Nat → Int32) (c z : Nat) (σ : SC) (ρ : SR) : Prop := RG tp c z σ ρ ∧ xz σ 4 = gz ρ 2 ∧ xz σ 5 = gz ρ 3 ∧ ¬ xz σ 4 = 0
/-- the byte at a place; -1 at the end -/
def bt (tp : Nat → Int32) (z i : Nat) : Int32 := if i < z then tp i else -1
section RD
variable {tp : Nat → Int32} {c z r a : Nat} {σ : SC} {ρ : SR}
theorem byteAt_eq (h : RG tp c z σ ρ) (hz : z ≤ 200) {i : Nat} (hi : i ≤ 1000) : fC_Ta_byteAt σ (nI i) = some (bt tp z i) := by
  unfold fC_Ta_byteAt bt
  rw [if_neg (nI_pos (by omega)), h.2.2.1, h.1]
  by_cases q : i < z
  · rw [if_pos q, if_neg (nI_ge q (by omega)), if_neg (ix_ok (n := 200) (by omega) (by omega)), nI_clamp (by omega)]
  · rw [if_neg q, if_pos (nI_le (by omega) (by omega))]
theorem here_eq (h : PR tp c z r a σ ρ) : fR_here ρ = some (bt tp z a) := by
  obtain ⟨g, -, -, e, h1, h2, -⟩ := h
  unfold fR_here bt
  rw [e, g.2.2.2.1, g.2.1]
  by_cases q : a < z
  · rw [if_pos q, if_neg (nI_ge q (by omega)), if_neg (ix_ok (n := 200) (by omega) (by omega)), nI_clamp (by omega)]
  · rw [if_neg q, if_pos (nI_le (by omega) (by omega))]
theorem PR.go (h : PR tp c z r a σ ρ) {b : Nat} (hb : b ≤ z) : PR tp c z r b (yz σ 3 (nI b)) (pz ρ 32 (nI b)) :=
  ⟨h.1, h.2.1, rfl, rfl, hb, h.2.2.2.2.2.1, h.2.2.2.2.2.2.1, h.2.2.2.2.2.2.2.1, h.2.2.2.2.2.2.2.2.1, h.2.2.2.2.2.2.2.2.2⟩
theorem PR.step (h : PR tp c z r a σ ρ) (q : ¬ bt tp z a = -1) : a < z ∧ PR tp c z r (a + 1) (yz σ 3 (xz σ 3 + 1)) (pz ρ 32 (gz ρ 32 + 1)) := by
  have hlt : a < z := Classical.byContradiction fun e => q (if_neg e)
  refine ⟨hlt, ?_⟩
  have := h.go (b := a + 1) (by omega)
  rw [h.2.2.1, h.2.2.2.1, nI_1]
  exact this
theorem PR.fail (h : PR tp c z r a σ ρ) {k p : Int32} (hk : ¬ k = 0) : FR tp c z (yz (yz σ 4 k) 5 p) (pz (pz ρ 2 k) 3 p) := ⟨h.1, rfl, rfl, hk⟩
theorem PR.num (h : PR tp c z r a σ ρ) (v : Int32) : PR tp c z r a σ (pz ρ 34 v) := h
theorem PR.row (h : PR tp c z r a σ ρ) {k : Nat} (hk : k = 4 ∨ k = 5 ∨ k = 6) (v : Int32) : PR tp c z r a σ (pf ρ k r v) := by
  have hr : ∀ i, i < r → rowOk σ ρ i → rowOk σ (pf ρ k r v) i := by
    intro i hi q
    have e : ∀ j, gf (pf ρ k r v) j i = gf ρ j i := fun j => by
      by_cases ej : j = k
      · subst ej; rw [gfpf_eq, pk_un (by omega)]
      · rw [gfpf_ne ej]
    unfold rowOk
    rw [e, e, e]
    exact q
  have hG : RG tp c z σ (pf ρ k r v) := by
    obtain ⟨g1, g2, g3, g4, g5, g6, g7, g8, g9⟩ := h.1
    have hcr := h.2.2.2.2.2.2.1
    rcases hk with rfl | rfl | rfl <;> exact ⟨g1, g2, g3, g4, g5, g6, g7, fun i hi => hr i (by omega) (g8 i hi), g9⟩
  exact ⟨hG, h.2.1, h.2.2.1, h.2.2.2.1, h.2.2.2.2.1, h.2.2.2.2.2.1, h.2.2.2.2.2.2.1, h.2.2.2.2.2.2.2.1, h.2.2.2.2.2.2.2.2.1, fun i hi => hr i hi (h.2.2.2.2.2.2.2.2.2 i hi)⟩
end RD
/-! blanks -/
theorem blank_loop {tp : Nat → Int32} {c z r : Nat} : ∀ (f a : Nat) (σ : SC) (ρ : SR), PR tp c z r a σ ρ → z - a < f → ∃ a' σ' ρ', fC_Tr_nextSign_L0 f σ = some σ' ∧ fR_blanks_L0 f ρ = some ρ' ∧ PR tp c z r a' σ' ρ' ∧ a ≤ a' ∧ ¬ bt tp z a' = 32 ∧ gf ρ' = gf ρ := by
  intro f
  induction f with
  | zero => intro a σ ρ _ q; omega
  | succ f ih =>
    intro a σ ρ h hf
    have hz := h.2.2.2.2.2.1
    have ha := h.2.2.2.2.1
    rw [fC_Tr_nextSign_L0, fR_blanks_L0, here_eq h, bd_s, h.2.2.1, byteAt_eq h.1 hz (by omega), bd_s]
    by_cases q : bt tp z a = 32
    · obtain ⟨hlt, h'⟩ := h.step (by rw [q]; decide)
      rw [if_neg (show ¬ (200 : Int32) ≤ nI a from nI_ge (b := 200) (by omega) (by omega)), if_pos q, if_pos q]
      obtain ⟨a', σ', ρ', e1, e2, e3, e4, e5, e6⟩ := ih (a + 1) _ _ h' (by omega)
      rw [h.2.2.1] at e1
      exact ⟨a', σ', ρ', e1, e2, e3, by omega, e5, e6⟩
    · rw [if_neg q, if_neg q]
      refine ⟨a, σ, ρ, ?_, rfl, h, Nat.le_refl _, q, rfl⟩
      split <;> rfl
theorem nextSign_eq {tp : Nat → Int32} {c z r a : Nat} {σ : SC} {ρ : SR} (h : PR tp c z r a σ ρ) : ∃ a' σ' ρ', fC_Tr_nextSign σ = some (bt tp z a', σ') ∧ fR_blanks ρ = some ρ' ∧ PR tp c z r a' σ' ρ' ∧ a ≤ a' ∧ ¬ bt tp z a' = 32 ∧ gf ρ' = gf ρ := by
  have hz := h.2.2.2.2.2.1
  obtain ⟨a', σ', ρ', e1, e2, e3, e4, e5, e6⟩ := blank_loop 1000 a σ ρ h (by omega)
  have ha' := e3.2.2.2.2.1
  refine ⟨a', σ', ρ', ?_, ?_, e3, e4, e5, e6⟩
  · unfold fC_Tr_nextSign
    rw [e1, bd_s, e3.2.2.1, byteAt_eq e3.1 hz (by omega)]
    rfl
  · unfold fR_blanks
    rw [e2]; rfl
theorem nextSign_id {tp : Nat → Int32} {c z r a : Nat} {σ : SC} {ρ : SR} (h : PR tp c z r a σ ρ) (q : ¬ bt tp z a = 32) : fC_Tr_nextSign σ = some (bt tp z a, σ) := by
  have hz := h.2.2.2.2.2.1
  have ha := h.2.2.2.2.1
  have e1 : fC_Tr_nextSign_L0 1000 σ = some σ := by
    rw [fC_Tr_nextSign_L0, h.2.2.1, byteAt_eq h.1 hz (by omega), bd_s, if_neg q]
    split <;> rfl
  unfold fC_Tr_nextSign
  rw [e1, bd_s, h.2.2.1, byteAt_eq h.1 hz (by omega)]
  rfl
/-! letters -/
theorem letter_loop {tp : Nat → Int32} {c z r : Nat} (l1 l2 l3 : Int32) : ∀ (f a : Nat) (σ : SC) (ρ : SR), PR tp c z r a σ ρ → z - a < f → ∃ a' σ' ρ', fC_Tr_readName_L10 l1 f σ = some σ' ∧ fR_readStatement_L9 l2 l3 f ρ = some ρ' ∧ PR tp c z r a' σ' ρ' ∧ a ≤ a' ∧ gf ρ' = gf ρ := by
  intro f
  induction f with
  | zero => intro a σ ρ _ q; omega
  | succ f ih =>
    intro a σ ρ h hf
    have hz := h.2.2.2.2.2.1
    have ha := h.2.2.2.2.1
    rw [fC_Tr_readName_L10, fR_readStatement_L9, here_eq h, bd_s, h.2.2.1, byteAt_eq h.1 hz (by omega), bd_s, fC_isWithin_eq, fR_in_eq, bd_s, bd_s]
    by_cases q : (97 : Int32) ≤ bt tp z a ∧ bt tp z a ≤ 122
    · obtain ⟨hlt, h'⟩ := h.step (fun e => by rw [e] at q; exact absurd q.1 (by decide))
      rw [if_neg (show ¬ (200 : Int32) ≤ nI a from nI_ge (b := 200) (by omega) (by omega)), wi_t q, if_neg one_ne, if_neg one_ne]
      obtain ⟨a', σ', ρ', e1, e2, e3, e4, e6⟩ := ih (a + 1) _ _ h' (by omega)
      rw [h.2.2.1] at e1
      exact ⟨a', σ', ρ', e1, e2, e3, by omega, e6⟩
    · rw [wi_f q, if_pos rfl, if_pos rfl]
      refine ⟨a, σ, ρ, ?_, rfl, h, Nat.le_refl _, rfl⟩
      split <;> rfl
/-! names -/
def kL (k : Nat) : Nat := klen.getD k 0
def kch (k i : Nat) : Int32 := (kbyt.getD k []).getD i 0
def kof (k : Nat) : Nat := [0, 6, 11, 17, 22, 27, 31, 35, 40].getD k 0
theorem length_eq : ∀ k, k < 9 → fK_length k = some (nI (kL k)) := by decide +kernel
theorem charAt_eq : ∀ k, k < 9 → ∀ i, i < kL k → fK_charAt k (nI i) = some (kch k i) := by decide +kernel
theorem indexOf_eq : ∀ k, k < 8 → fK_indexOf 8 32 (nI (kof k)) = some (nI (kof k + kL k)) := by decide +kernel
theorem kch_8 : ∀ k, k < 8 → ∀ i, i < kL k → kof k + i < kL 8 ∧ kch 8 (kof k + i) = kch k i := by decide +kernel
theorem kof_s : ∀ k, k < 8 → kof (k + 1) = kof k + kL k + 1 := by decide +kernel
theorem kL_le : ∀ k, k < 8 → kL k ≤ 5 := by decide +kernel
theorem kof_lt : ∀ k, k < 8 → kof k < 40 := by decide +kernel
theorem kL8 : kL 8 = 40 := by decide +kernel
theorem wordOf_eq (σ : SC) : ∀ k, k < 8 → fC_Tr_wordOf σ (nI k) = some k := by
  intro k hk
  have : k = 0 ∨ k = 1 ∨ k = 2 ∨ k = 3 ∨ k = 4 ∨ k = 5 ∨ k = 6 ∨ k = 7 := by omega
  unfold fC_Tr_wordOf
  rcases this with rfl | rfl | rfl | rfl | rfl | rfl | rfl | rfl <;> rfl
theorem stand_loop {tp : Nat → Int32} {c z : Nat} {σ : SC} {ρ : SR} (h : RG tp c z σ ρ) (hz : z ≤ 200) {k a b : Nat} (hk : k < 8) (hab : a + kL k = b) (hb : b ≤ z) (l3 l5 : Int32) : ∀ (m i f g : Nat), kL k - i = m → i ≤ kL k → m < f → m + 1 < g →
    (fC_Tr_standsBetween_L15 σ k (nI a) f (nI i) = some (Sum.inl ()) ∧ fR_nameAt_L47 ρ (nI a) (nI b) l3 (nI (kof k)) l5 g 1 (nI i) = some 1) ∨ (fC_Tr_standsBetween_L15 σ k (nI a) f (nI i) = some (Sum.inr 0) ∧ fR_nameAt_L47 ρ (nI a) (nI b) l3 (nI (kof k)) l5 g 1 (nI i) = some 0) := by
  have hL := kL_le k hk
  have eba : nI b - nI a = nI (kL k) := by rw [pk_sub (by omega)]; congr 1; omega
  intro m
  induction m with
  | zero =>
    intro i f g h1 h2 h3 h4
    obtain ⟨f, rfl⟩ : ∃ q, f = q + 1 := ⟨f - 1, by omega⟩
    obtain ⟨g, rfl⟩ : ∃ q, g = q + 1 := ⟨g - 1, by omega⟩
    have e : i = kL k := by omega
    subst e
    rw [fC_Tr_standsBetween_L15, fR_nameAt_L47, length_eq k (by omega), bd_s, if_neg (by omega), if_pos (nI_le (Nat.le_refl _) (by omega)), if_neg one_ne, eba, if_pos (nI_le (Nat.le_refl _) (by omega))]
    exact Or.inl ⟨rfl, rfl⟩
  | succ m ih =>
    intro i f g h1 h2 h3 h4
    obtain ⟨f, rfl⟩ : ∃ q, f = q + 1 := ⟨f - 1, by omega⟩
    obtain ⟨g, rfl⟩ : ∃ q, g = q + 1 := ⟨g - 1, by omega⟩
    have hi : i < kL k := by omega
    obtain ⟨hk8, ek8⟩ := kch_8 k hk i hi
    rw [fC_Tr_standsBetween_L15, fR_nameAt_L47, length_eq k (by omega), bd_s, if_neg (by omega), if_neg (nI_ge hi (by omega)), if_neg one_ne, eba, if_neg (nI_ge hi (by omega)), charAt_eq k (by omega) i hi, bd_s, nI_add, nI_add, byteAt_eq h hz (by omega), bd_s, charAt_eq 8 (by omega) _ hk8, bd_s, ek8, if_neg (ix_ok (n := 200) (by omega) (by omega)), nI_clamp (by omega), h.2.1, nI_1]
    have eb : bt tp z (a + i) = tp (a + i) := if_pos (by omega)
    rw [eb]
    by_cases q : kch k i = tp (a + i)
    · rw [if_pos q, if_pos q, bd_s]
      exact ih (i + 1) f g (by omega) (by omega) (by omega) (by omega)
    · rw [if_neg q, if_neg q, bd_s]
      obtain ⟨g, rfl⟩ : ∃ q, g = q + 1 := ⟨g - 1, by omega⟩
      rw [fR_nameAt_L47, if_pos rfl]
      exact Or.inr ⟨rfl, rfl⟩
theorem name_loop {tp : Nat → Int32} {c z : Nat} {σ : SC} {ρ : SR} (h : RG tp c z σ ρ) (hz : z ≤ 200) {a b : Nat} (hab : a ≤ b) (hb : b ≤ z) : ∀ (m k f g : Nat), 8 - k = m → k ≤ 8 → m < f → m < g →
    ∃ w, fC_Tr_nameBetween_L2 σ (nI a) (nI b) f (nI k) = some w ∧ fR_nameAt_L5 ρ (nI a) (nI b) g (nI k) (nI (kof k)) = some w ∧ (w = Sum.inl () ∨ ∃ j : Nat, j ≤ 7 ∧ w = Sum.inr (nI j)) := by
  have eba : nI b - nI a = nI (b - a) := pk_sub hab
  intro m
  induction m with
  | zero =>
    intro k f g h1 h2 h3 h4
    obtain ⟨f, rfl⟩ : ∃ q, f = q + 1 := ⟨f - 1, by omega⟩
    obtain ⟨g, rfl⟩ : ∃ q, g = q + 1 := ⟨g - 1, by omega⟩
    have e : k = 8 := by omega
    subst e
    rw [fC_Tr_nameBetween_L2, fR_nameAt_L5, length_eq 8 (by omega), bd_s, if_pos (by decide), if_pos (by decide)]
    exact ⟨_, rfl, rfl, Or.inl rfl⟩
  | succ m ih =>
    intro k f g h1 h2 h3 h4
    obtain ⟨f, rfl⟩ : ∃ q, f = q + 1 := ⟨f - 1, by omega⟩
    obtain ⟨g, rfl⟩ : ∃ q, g = q + 1 := ⟨g - 1, by omega⟩
    have hk : k < 8 := by omega
    have hL := kL_le k hk
    have hO := kof_lt k hk
    have r := ih (k + 1) f g (by omega) (by omega) (by omega) (by omega)
    rw [kof_s k hk] at r
    rw [fC_Tr_nameBetween_L2, fR_nameAt_L5, length_eq 8 (by omega), bd_s, kL8, if_neg (show ¬ (8 : Int32) ≤ nI k from nI_ge (b := 8) (by omega) (by omega)), if_neg (nI_ge hO (by omega)), wordOf_eq σ k hk, bd_s, indexOf_eq k hk, bd_s, nI_1, nI_1]
    have e2 : nI (kof k + kL k) - nI (kof k) = nI (kL k) := by rw [pk_sub (by omega)]; congr 1; omega
    unfold fC_Tr_standsBetween
    rw [length_eq k (by omega), bd_s, if_neg (show ¬ 9 ≤ k by omega), e2, eba]
    by_cases q : kL k = b - a
    · rw [if_pos (by rw [q]), if_pos (by rw [q]), bd_s]
      rcases stand_loop h hz hk (a := a) (b := b) (by omega) hb (nI k) (nI (kof k + kL k)) (kL k) 0 1000 1000 (by omega) (by omega) (by omega) (by omega) with ⟨s1, s2⟩ | ⟨s1, s2⟩
      · rw [nI_0] at s1 s2
        rw [s1, s2, bd_s, bd_s, if_neg one_ne]
        exact ⟨Sum.inr (nI k), rfl, rfl, Or.inr ⟨k, by omega, rfl⟩⟩
      · rw [nI_0] at s1 s2
        rw [s1, s2, bd_s, bd_s, if_pos rfl]
        exact r
    · rw [if_neg (fun e => q ((nI_eq (by omega) (by omega)).mp e)), if_neg (fun e => q ((nI_eq (by omega) (by omega)).mp e)), bd_s, bd_s, if_pos rfl, fR_nameAt_L47, if_pos rfl, bd_s, if_pos rfl]
      exact r
theorem name_eq {tp : Nat → Int32} {c z : Nat} {σ : SC} {ρ : SR} (h : RG tp c z σ ρ) (hz : z ≤ 200) {a b : Nat} (hab : a ≤ b) (hb : b ≤ z) : ∃ x, fC_Tr_nameBetween σ (nI a) (nI b) = some x ∧ fR_nameAt ρ (nI a) (nI b) = some x ∧ (x = -1 ∨ ∃ j : Nat, j ≤ 7 ∧ x = nI j) := by
  obtain ⟨w, e1, e2, e3⟩ := name_loop h hz hab hb 8 0 1000 1000 (by omega) (by omega) (by omega) (by omega)
  rw [nI_0] at e1
  rw [show kof 0 = 0 from rfl, nI_0] at e2
  unfold fC_Tr_nameBetween fR_nameAt
  rw [e1, e2]
  rcases e3 with rfl | ⟨j, hj, rfl⟩
  · exact ⟨-1, rfl, rfl, Or.inl rfl⟩
  · exact ⟨nI j, rfl, rfl, Or.inr ⟨j, hj, rfl⟩⟩
/-! numbers -/
def Dg (g : Nat) (x y : Int32) : Prop := ∃ n m : Nat, x = nI n ∧ y = nI m ∧ n ≤ 100009 ∧ m ≤ 1000009 ∧ ((n = m ∧ n ≤ g) ∨ (g < n ∧ g < m))
theorem digit_loop {tp : Nat → Int32} {c z r g : Nat} (hg : g ≤ 10000) (l2 l3 : Int32) : ∀ (f a : Nat) (x y : Int32) (σ : SC) (ρ : SR), PR tp c z r a σ ρ → Dg g x y → z - a < f → ∃ a' x' y' σ' ρ', fC_Tr_readNumber_L33 (nI g) l2 f x σ = some (x', σ') ∧ fR_readNumber_L31 (nI g) l3 f y ρ = some (y', ρ') ∧ PR tp c z r a' σ' ρ' ∧ Dg g x' y' ∧ a ≤ a' ∧ gf ρ' = gf ρ := by
  intro f
  induction f with
  | zero => intro a x y σ ρ _ _ q; omega
  | succ f ih =>
    intro a x y σ ρ h hD hf
    have hz := h.2.2.2.2.2.1
    have ha := h.2.2.2.2.1
    rw [fC_Tr_readNumber_L33, fR_readNumber_L31, here_eq h, h.2.2.1, byteAt_eq h.1 hz (by omega)]
    simp only [bd_s, fC_isWithin_eq, fR_in_eq]
    by_cases q : (48 : Int32) ≤ bt tp z a ∧ bt tp z a ≤ 57
    · obtain ⟨hlt, h'⟩ := h.step (fun e => by rw [e] at q; exact absurd q.1 (by decide))
      rw [if_neg (show ¬ (200 : Int32) ≤ nI a from nI_ge (b := 200) (by omega) (by omega)), wi_t q, if_neg one_ne, if_neg one_ne]
      obtain ⟨b, hb, eb⟩ := wi_nat (n := 57) (hi := 57) (by decide) ⟨by have := q.1; rw [iLe] at this ⊢; rw [show (48 : Int32).toInt = 48 by decide] at this; rw [tI_0]; omega, q.2⟩
      have hb48 : 48 ≤ b := by
        have := q.1
        rw [iLe, eb, nI_toInt (by omega), show (48 : Int32).toInt = 48 by decide] at this
        omega
      obtain ⟨n, m, rfl, rfl, hn, hm, hnm⟩ := hD
      have s1 : nI b - (48 : Int32) = nI (b - 48) := pk_sub (a := b) (b := 48) hb48
      have s2 : (10 : Int32) * nI m + nI b - 48 = nI (10 * m + (b - 48)) := by
        rw [show (10 : Int32) * nI m = nI (10 * m) from pk_mul 10 m, nI_add]
        refine (pk_sub (a := 10 * m + b) (b := 48) (by omega)).trans ?_
        congr 1; omega
      have s3 : nI n * (10 : Int32) + nI (b - 48) = nI (n * 10 + (b - 48)) := by
        rw [show nI n * (10 : Int32) = nI (n * 10) from pk_mul n 10, nI_add]
      rw [eb, s1, s2, s3]
      have cont : ∀ x1 y1 : Int32, Dg g x1 y1 → ∃ a' x' y' σ' ρ', fC_Tr_readNumber_L33 (nI g) l2 f x1 (yz σ 3 (nI a + 1)) = some (x', σ') ∧ fR_readNumber_L31 (nI g) l3 f y1 (pz ρ 32 (gz ρ 32 + 1)) = some (y', ρ') ∧ PR tp c z r a' σ' ρ' ∧ Dg g x' y' ∧ a ≤ a' ∧ gf ρ' = gf ρ := by
        intro x1 y1 hD1
        obtain ⟨a', x', y', σ', ρ', e1, e2, e3, e4, e5, e6⟩ := ih (a + 1) x1 y1 _ _ h' hD1 (by omega)
        rw [h.2.2.1] at e1
        exact ⟨a', x', y', σ', ρ', e1, e2, e3, e4, by omega, e6⟩
      by_cases c1 : g < n
      · rw [if_pos (nI_lt c1 (by omega)), bd_s]
        by_cases c2 : m ≤ 100000
        · rw [if_pos (show nI m ≤ (100000 : Int32) from nI_le (b := 100000) c2 (by omega)), bd_s]
          exact cont _ _ ⟨n, 10 * m + (b - 48), rfl, rfl, hn, by omega, by omega⟩
        · rw [if_neg (show ¬ nI m ≤ (100000 : Int32) from nI_ge (a := 100000) (by omega) (by omega)), bd_s]
          exact cont _ _ ⟨n, m, rfl, rfl, hn, hm, by omega⟩
      · have enm : n = m := by omega
        subst enm
        rw [if_neg (nI_nlt (by omega) (by omega)), bd_s, if_pos (show nI n ≤ (100000 : Int32) from nI_le (b := 100000) (by omega) (by omega)), bd_s]
        exact cont _ _ ⟨n * 10 + (b - 48), 10 * n + (b - 48), rfl, rfl, by omega, by omega, by omega⟩
    · rw [wi_f q, if_pos rfl, if_pos rfl]
      refine ⟨a, x, y, σ, ρ, ?_, rfl, h, hD, Nat.le_refl _, rfl⟩
      split <;> rfl
theorem number_eq {tp : Nat → Int32} {c z r a g : Nat} (hg : g ≤ 10000) {σ : SC} {ρ : SR} (h : PR tp c z r a σ ρ) :
    (∃ σ' ρb ρ', fC_Tr_readNumber σ (nI g) = some (-1, σ') ∧ fR_blanks ρ = some ρb ∧ fR_readNumber ρb (nI g) = some (0, ρ') ∧ FR tp c z σ' ρ') ∨
    ∃ n a' σ' ρb ρ', n ≤ g ∧ fC_Tr_readNumber σ (nI g) = some (nI n, σ') ∧ fR_blanks ρ = some ρb ∧ fR_readNumber ρb (nI g) = some (1, ρ') ∧ PR tp c z r a' σ' ρ' ∧ a ≤ a' ∧ gz ρ' 34 = nI n ∧ gf ρ' = gf ρ := by
  obtain ⟨a1, σ1, ρ1, e1, e2, h1, l1, -, g1⟩ := nextSign_eq h
  have hz := h.2.2.2.2.2.1
  unfold fC_Tr_readNumber fR_readNumber
  rw [e1, bd_s]
  by_cases q : (48 : Int32) ≤ bt tp z a1 ∧ bt tp z a1 ≤ 57
  · obtain ⟨a2, x, y, σ2, ρ2, f1, f2, h2, ⟨n, m, rfl, rfl, hn, hm, hD⟩, l2, g2⟩ := digit_loop hg (nI a1) (nI a1) 1000 a1 0 0 σ1 ρ1 h1 ⟨0, 0, rfl, rfl, by omega, by omega, by omega⟩ (by omega)
    show (∃ σ' ρb ρ', Option.bind (fC_isWithin (bt tp z a1) 48 57) _ = _ ∧ _) ∨ ∃ n a' σ' ρb ρ', n ≤ g ∧ Option.bind (fC_isWithin (bt tp z a1) 48 57) _ = _ ∧ _
    rw [fC_isWithin_eq, bd_s, wi_t q, if_neg one_ne]
    by_cases cn : n ≤ g
    · have em : n = m := by omega
      subst em
      right
      refine ⟨n, a2, σ2, ρ1, pz ρ2 34 (nI n), cn, ?_, e2, ?_, h2.num _, by omega, rfl, g2.trans g1⟩
      · show Option.bind (fC_Tr_readNumber_L33 (nI g) (xz σ1 3) 1000 0 σ1) _ = _
        rw [h1.2.2.1, f1, bd_s, if_pos (nI_le cn (by omega))]
      · rw [here_eq h1, bd_s, fR_in_eq, bd_s, wi_t q, if_neg one_ne, h1.2.2.2.1, f2, bd_s, if_pos (nI_le cn (by omega))]
    · left
      refine ⟨yz (yz σ2 4 2) 5 (nI a1), ρ1, pz (pz (pz ρ2 34 (nI m)) 2 2) 3 (nI a1), ?_, e2, ?_, (h2.num (nI m)).fail (by decide)⟩
      · show Option.bind (fC_Tr_readNumber_L33 (nI g) (xz σ1 3) 1000 0 σ1) _ = _
        rw [h1.2.2.1, f1, bd_s, if_neg (nI_ge (by omega) (by omega))]
        rfl
      · rw [here_eq h1, bd_s, fR_in_eq, bd_s, wi_t q, if_neg one_ne, h1.2.2.2.1, f2, bd_s, if_neg (nI_ge (by omega) (by omega))]
        rfl
  · left
    refine ⟨yz (yz σ1 4 1) 5 (nI a1), ρ1, pz (pz ρ1 2 1) 3 (nI a1), ?_, e2, ?_, h1.fail (by decide)⟩
    · show Option.bind (fC_isWithin (bt tp z a1) 48 57) _ = _
      rw [fC_isWithin_eq, bd_s, wi_f q, if_pos rfl]
      show Option.bind (fC_Tr_fail σ1 1 (xz σ1 3)) _ = _
      rw [h1.2.2.1]
      rfl
    · rw [here_eq h1, bd_s, fR_in_eq, bd_s, wi_f q, if_pos rfl, h1.2.2.2.1]
      rfl
