/-! PURE: statements and texts -/
theorem propose_eq {tp : Nat → Int32} {c z r a : Nat} {σ : SC} {ρ : SR} (h : PR tp c z r a σ ρ) (hr : r < 60) {nm : Int32} {v mo : Nat} (hv : v ≤ 10000) (hmo : mo ≤ 60) (e4 : gf ρ 4 r = nm) (e5 : gf ρ 5 r = nI v) (e6 : gf ρ 6 r = nI mo) : ∃ σ', fC_Rb_propose σ nm (nI v) (nI mo) = some σ' ∧ PR tp c z (r + 1) a σ' ρ := by
  obtain ⟨g, f0, a1, a2, a3, a4, a5, a6, a7, a8⟩ := h
  have er : xz σ 1 + xz σ 2 = nI r := by rw [g.2.2.2.2.2.1, a7, nI_add]; congr 1; omega
  refine ⟨yz (yf (yf (yf σ 1 r nm) 2 r (nI v)) 3 r (nI mo)) 2 (nI (r + 1 - c)), ?_, ?_⟩
  · unfold fC_Rb_propose fC_Rb_isFull
    rw [er, if_pos (show nI r < (60 : Int32) from nI_lt (b := 60) hr (by omega)), bd_s, if_pos rfl, if_neg (ix_ok hr (by omega)), nI_clamp (by omega)]
    rw [show xz (yf (yf (yf σ 1 r nm) 2 r (nI v)) 3 r (nI mo)) 2 = nI (r - c) from a7, nI_1, show r - c + 1 = r + 1 - c by omega]
  · have rows : ∀ i, i < r + 1 → rowOk (yz (yf (yf (yf σ 1 r nm) 2 r (nI v)) 3 r (nI mo)) 2 (nI (r + 1 - c))) ρ i := by
      intro i hi
      have x1 : xf (yz (yf (yf (yf σ 1 r nm) 2 r (nI v)) 3 r (nI mo)) 2 (nI (r + 1 - c))) 1 = upd (xf σ 1) r nm := rfl
      have x2 : xf (yz (yf (yf (yf σ 1 r nm) 2 r (nI v)) 3 r (nI mo)) 2 (nI (r + 1 - c))) 2 = upd (xf σ 2) r (nI v) := rfl
      have x3 : xf (yz (yf (yf (yf σ 1 r nm) 2 r (nI v)) 3 r (nI mo)) 2 (nI (r + 1 - c))) 3 = upd (xf σ 3) r (nI mo) := rfl
      unfold rowOk
      rw [x1, x2, x3]
      by_cases e : i = r
      · subst e
        rw [pk_us, pk_us, pk_us, e4, e5, e6]
        exact ⟨rfl, rfl, rfl, ⟨v, hv, rfl⟩, ⟨mo, hmo, rfl⟩⟩
      · rw [pk_un e, pk_un e, pk_un e]
        exact a8 i (by omega)
    obtain ⟨g1, g2, g3, g4, g5, g6, g7, g8, g9⟩ := g
    exact ⟨⟨g1, g2, g3, g4, g5, g6, g7, fun i hi => rows i (by omega), g9⟩, f0, a1, a2, a3, a4, by omega, by omega, rfl, rows⟩
theorem stmt_eq {tp : Nat → Int32} {c z r a : Nat} {σ : SC} {ρ : SR} (h : PR tp c z r a σ ρ) :
    (∃ σ' ρ', fC_Tr_readStatement σ = some (0, σ') ∧ fR_readStatement ρ (nI r) = some (0, ρ') ∧ FR tp c z σ' ρ') ∨
    ∃ a' σ1 σ2 ρ', r < 60 ∧ fC_Tr_readStatement σ = some (1, σ1) ∧ fC_Tr_nextSign σ1 = some (bt tp z a', σ2) ∧ fR_readStatement ρ (nI r) = some (1, ρ') ∧ PR tp c z (r + 1) a' σ2 ρ' ∧ a < a' := by
  have hz := h.2.2.2.2.2.1
  have hr60 := h.2.2.2.2.2.2.2.1
  have hcr := h.2.2.2.2.2.2.1
  obtain ⟨a1, σ1, ρ1, e1, e2, h1, l1, -, -⟩ := nextSign_eq h
  obtain ⟨a2, σ2, ρ2, f1, f2, h2, l2, -⟩ := letter_loop (nI a1) (nI r) (nI a1) 1000 a1 σ1 ρ1 h1 (by omega)
  obtain ⟨x, n1, n2, hx⟩ := name_eq h2.1 hz l2 h2.2.2.2.2.1
  have eN : fC_Tr_readName σ = if x = -1 then some (-1, yz (yz σ2 4 1) 5 (nI a1)) else if r < 60 then some (x, σ2) else some (-1, yz (yz σ2 4 3) 5 (nI a1)) := by
    unfold fC_Tr_readName
    rw [e1, bd_s]
    show Option.bind (fC_Tr_readName_L10 (xz σ1 3) 1000 σ1) _ = _
    rw [h1.2.2.1, f1, bd_s]
    rw [h2.2.2.1, n1, bd_s]
    by_cases q : x = -1
    · rw [if_pos q, if_pos q]; rfl
    · rw [if_neg q, if_neg q]
      unfold fC_Rb_isFull
      have er : xz σ2 1 + xz σ2 2 = nI r := by rw [h2.1.2.2.2.2.2.1, h2.2.2.2.2.2.2.2.2.1, nI_add]; congr 1; omega
      rw [er]
      by_cases q2 : r < 60
      · rw [if_pos (show nI r < (60 : Int32) from nI_lt (b := 60) q2 (by omega)), if_pos q2, bd_s, if_pos rfl]
      · rw [if_neg (show ¬ nI r < (60 : Int32) from nI_nlt (b := 60) (by omega) (by omega)), if_neg q2, bd_s, if_neg one_ne]
        rfl
  unfold fC_Tr_readStatement fR_readStatement
  rw [eN, e2, bd_s, h1.2.2.2.1, f2, bd_s, h2.2.2.2.1, n2, bd_s]
  by_cases qx : x = -1
  · rw [if_pos qx, if_pos qx, bd_s, if_pos rfl]
    exact Or.inl ⟨_, _, rfl, rfl, h2.fail (by decide)⟩
  rw [if_neg qx, if_neg qx]
  by_cases qr : r < 60
  · rw [if_pos qr, bd_s, if_neg (show ¬ nI r = (60 : Int32) from fun e => by have := (nI_eq (b := 60) (by omega) (by omega)).mp e; omega)]
    obtain ⟨a3, σ3, ρ3, p1, p2, h3, l3, -, -⟩ := nextSign_eq h2
    show (∃ σ' ρ', (if x = -1 then _ else Option.bind (fC_Tr_readEquals σ2) _) = _ ∧ _) ∨ ∃ a' σ1 σ2_1 ρ', r < 60 ∧ (if x = -1 then _ else Option.bind (fC_Tr_readEquals σ2) _) = _ ∧ _
    rw [if_neg qx, p2, bd_s, here_eq h3, bd_s]
    have eE : fC_Tr_readEquals σ2 = if bt tp z a3 = 61 then some (1, yz σ3 3 (xz σ3 3 + 1)) else some (0, yz (yz σ3 4 1) 5 (nI a3)) := by
      unfold fC_Tr_readEquals
      rw [p1, bd_s]
      show (if bt tp z a3 = 61 then _ else Option.bind (fC_Tr_fail σ3 1 (xz σ3 3)) _) = _
      rw [h3.2.2.1]
      rfl
    rw [eE]
    by_cases q3 : bt tp z a3 = 61
    · rw [if_pos q3, if_pos q3, bd_s]
      obtain ⟨hlt3, h3'⟩ := h3.step (by rw [q3]; decide)
      show (∃ σ' ρ', Option.bind (fC_Tr_readNumber (yz σ3 3 (xz σ3 3 + 1)) 10000) _ = _ ∧ _) ∨ ∃ a' σ1 σ2_1 ρ', r < 60 ∧ Option.bind (fC_Tr_readNumber (yz σ3 3 (xz σ3 3 + 1)) 10000) _ = _ ∧ _
      rcases number_eq (g := 10000) (Nat.le_refl _) h3' with ⟨σ4, ρb, ρ4, k1, k2, k3, k4⟩ | ⟨n, a4, σ4, ρb, ρ4, hn, k1, k2, k3, h4, l4, k34, -⟩
      · rw [show (10000 : Int32) = nI 10000 from rfl, k1, k2, bd_s, bd_s, k3, bd_s, if_pos rfl]
        exact Or.inl ⟨_, _, rfl, rfl, k4⟩
      · rw [show (10000 : Int32) = nI 10000 from rfl, k1, k2, bd_s, bd_s, k3, bd_s]
        have n1' : ¬ nI n = (-1 : Int32) := nI_neg1 n (by omega)
        show (∃ σ' ρ', (if nI n = -1 then _ else Option.bind (fC_Tr_readMonth σ4) _) = _ ∧ (if (1 : Int32) = 0 then _ else if nI r < 0 ∨ 60 ≤ (nI r).toNatClampNeg then none else Option.bind (fR_blanks (pf (pf (pf ρ4 4 (nI r).toNatClampNeg x) 5 (nI r).toNatClampNeg (gz ρ4 34)) 6 (nI r).toNatClampNeg 0)) _) = _ ∧ _) ∨ ∃ a' σ1 σ2_1 ρ', r < 60 ∧ (if nI n = -1 then _ else Option.bind (fC_Tr_readMonth σ4) _) = _ ∧ _ ∧ (if (1 : Int32) = 0 then _ else if nI r < 0 ∨ 60 ≤ (nI r).toNatClampNeg then none else Option.bind (fR_blanks (pf (pf (pf ρ4 4 (nI r).toNatClampNeg x) 5 (nI r).toNatClampNeg (gz ρ4 34)) 6 (nI r).toNatClampNeg 0)) _) = _ ∧ _
        rw [if_neg n1', if_neg one_ne, if_neg (ix_ok qr (by omega)), nI_clamp (by omega), k34]
        have h5 : PR tp c z r a4 σ4 (pf (pf (pf ρ4 4 r x) 5 r (nI n)) 6 r 0) := ((h4.row (Or.inl rfl) x).row (Or.inr (Or.inl rfl)) (nI n)).row (Or.inr (Or.inr rfl)) 0
        have r4 : gf (pf (pf (pf ρ4 4 r x) 5 r (nI n)) 6 r 0) 4 r = x := by
          show gf (pf ρ4 4 r x) 4 r = x
          rw [gfpf_eq, pk_us]
        have r5 : gf (pf (pf (pf ρ4 4 r x) 5 r (nI n)) 6 r 0) 5 r = nI n := by
          show gf (pf (pf ρ4 4 r x) 5 r (nI n)) 5 r = nI n
          rw [gfpf_eq, pk_us]
        have r6 : gf (pf (pf (pf ρ4 4 r x) 5 r (nI n)) 6 r 0) 6 r = nI 0 := by rw [gfpf_eq, pk_us]; rfl
        generalize pf (pf (pf ρ4 4 r x) 5 r (nI n)) 6 r 0 = ρ5 at *
        obtain ⟨a6, σ6, ρ6, s1, s2, h6, l6, nb6, g6⟩ := nextSign_eq h5
        rw [s2, bd_s, here_eq h6, bd_s]
        rw [← g6] at r4 r5 r6
        unfold fC_Tr_readMonth
        rw [s1, bd_s]
        by_cases q6 : bt tp z a6 = 64
        · obtain ⟨hlt6, h6'⟩ := h6.step (by rw [q6]; decide)
          rw [if_pos q6, if_pos q6]
          show (∃ σ' ρ', Option.bind (Option.bind (fC_Tr_readNumber (yz σ6 3 (xz σ6 3 + 1)) 60) _) _ = _ ∧ _) ∨ ∃ a' σ1 σ2_1 ρ', r < 60 ∧ Option.bind (Option.bind (fC_Tr_readNumber (yz σ6 3 (xz σ6 3 + 1)) 60) _) _ = _ ∧ _
          rcases number_eq (g := 60) (by omega) h6' with ⟨σ8, ρb8, ρ8, t1, t2, t3, t4⟩ | ⟨mo, a8, σ8, ρb8, ρ8, hmo, t1, t2, t3, h8, l8, t34, g8⟩
          · rw [show (60 : Int32) = nI 60 from rfl, t1, t2, bd_s, bd_s, bd_s, t3, bd_s, if_pos rfl]
            exact Or.inl ⟨_, _, rfl, rfl, t4⟩
          · rw [show (60 : Int32) = nI 60 from rfl, t1, t2, bd_s, bd_s, bd_s, t3, bd_s]
            have n2' : ¬ nI mo = (-1 : Int32) := nI_neg1 mo (by omega)
            have g8' : gf ρ8 = gf ρ6 := g8
            have h9 := h8.row (Or.inr (Or.inr rfl)) (nI mo) (k := 6)
            have w4 : gf (pf ρ8 6 r (nI mo)) 4 r = x := by
              show gf ρ8 4 r = x
              rw [g8']; exact r4
            have w5 : gf (pf ρ8 6 r (nI mo)) 5 r = nI n := by
              show gf ρ8 5 r = nI n
              rw [g8']; exact r5
            have w6 : gf (pf ρ8 6 r (nI mo)) 6 r = nI mo := by rw [gfpf_eq, pk_us]
            obtain ⟨σ9, u1, h10⟩ := propose_eq h9 qr hn hmo w4 w5 w6
            obtain ⟨a11, σ11, ρ11, v1, v2, h11, l11, -, -⟩ := nextSign_eq h10
            right
            refine ⟨a11, σ9, σ11, ρ11, qr, ?_, v1, ?_, h11, by omega⟩
            · show (if nI mo = -1 then _ else Option.bind (fC_Rb_propose σ8 x (nI n) (nI mo)) _) = _
              rw [if_neg n2', u1]
              rfl
            · show (if (1 : Int32) = 0 then _ else Option.bind (fR_blanks (pf ρ8 6 r (gz ρ8 34))) _) = _
              rw [if_neg one_ne, t34, v2]
              rfl
        · rw [if_neg q6, if_neg q6]
          obtain ⟨σ9, u1, h10⟩ := propose_eq h6 qr (mo := 0) hn (by omega) r4 r5 r6
          right
          refine ⟨a6, σ9, σ9, ρ6, qr, ?_, nextSign_id h10 nb6, rfl, h10, by omega⟩
          rw [bd_s]
          show (if (0 : Int32) = -1 then _ else Option.bind (fC_Rb_propose σ6 x (nI n) 0) _) = _
          rw [if_neg (by decide), show (0 : Int32) = nI 0 from rfl, u1]
          rfl
    · rw [if_neg q3, if_neg q3, bd_s, h3.2.2.2.1]
      exact Or.inl ⟨_, _, rfl, rfl, h3.fail (by decide)⟩
  · have e60 : r = 60 := by omega
    rw [if_neg qr, bd_s, if_pos (show nI r = (60 : Int32) by rw [e60]; rfl), if_pos rfl]
    exact Or.inl ⟨_, _, rfl, rfl, h2.fail (by decide)⟩
theorem L19_0 (f : Nat) (x : Int32) (σ : SC) : fC_Tr_readText_L19 (f + 1) 0 x σ = some σ := by rw [fC_Tr_readText_L19, if_pos rfl]
theorem L40_0 (f : Nat) (x : Int32) (ρ : SR) : fR_rules_L40 (f + 1) x 0 ρ = some (Sum.inl (x, ρ)) := by rw [fR_rules_L40, if_pos rfl]
theorem text_loop {tp : Nat → Int32} (htp : ∀ i, ¬ tp i = -1) {c z : Nat} : ∀ (f i r a : Nat) (σ : SC) (ρ : SR), PR tp c z r a σ ρ → i ≤ a → z - a + 1 < f →
    ∃ σ' w, fC_Tr_readText_L19 f 1 (nI i) σ = some σ' ∧ fR_rules_L40 f (nI r) 1 ρ = some w ∧ ((∃ ρ', w = Sum.inr (-1, ρ') ∧ FR tp c z σ' ρ') ∨ ∃ r' a' ρ', w = Sum.inl (nI r', ρ') ∧ gz ρ' 32 = nI a' ∧ gz ρ' 33 = nI z ∧ ((a' = z ∧ PR tp c z r' z σ' ρ') ∨ (a' < z ∧ z ≤ 200 ∧ FR tp c z σ' (pz (pz ρ' 2 1) 3 (nI a'))))) := by
  intro f
  induction f with
  | zero => intro i r a σ ρ _ _ q; omega
  | succ f ih =>
    intro i r a σ ρ h hi hf
    have hz := h.2.2.2.2.2.1
    have ha := h.2.2.2.2.1
    obtain ⟨f, rfl⟩ : ∃ q, f = q + 1 := ⟨f - 1, by omega⟩
    rw [fC_Tr_readText_L19, fR_rules_L40, if_neg one_ne, if_neg one_ne, if_neg (show ¬ (200 : Int32) < nI i from nI_nlt (a := 200) (b := i) (by omega) (by omega))]
    rcases stmt_eq h with ⟨σ1, ρ1, e1, e2, e3⟩ | ⟨a', σ1, σ2, ρ1, hr, e1, e2, e3, h2, hlt⟩
    · rw [e1, e2, bd_s, bd_s, if_pos rfl, if_pos rfl, bd_s]
      exact ⟨σ1, _, L19_0 _ _ _, rfl, Or.inl ⟨ρ1, rfl, e3⟩⟩
    · have ha' := h2.2.2.2.2.1
      rw [e1, e3, bd_s, bd_s, if_neg one_ne, if_neg one_ne]
      show ∃ σ' w, Option.bind (Option.bind (fC_Tr_readComma σ1) _) _ = _ ∧ Option.bind (fR_here ρ1) _ = _ ∧ _
      rw [here_eq h2, bd_s, nI_1, nI_1]
      unfold fC_Tr_readComma
      rw [e2, bd_s]
      by_cases q1 : bt tp z a' = -1
      · have hend : a' = z := Classical.byContradiction fun e => htp a' (by rw [← q1]; exact (if_pos (by omega)).symm)
        have n44 : ¬ bt tp z a' = 44 := by rw [q1]; decide
        rw [if_pos q1, if_neg n44, bd_s, bd_s]
        show ∃ σ' w, Option.bind (if (0 : Int32) = 0 then some ((0 : Int32), σ2) else _) _ = _ ∧ (if (0 : Int32) = 0 then fR_rules_L40 (f + 1) (nI (r + 1)) 0 ρ1 else _) = _ ∧ _
        rw [if_pos rfl, if_pos rfl, bd_s]
        refine ⟨σ2, Sum.inl (nI (r + 1), ρ1), ?_, L40_0 _ _ _, Or.inr ⟨r + 1, a', ρ1, rfl, h2.2.2.2.1, h2.1.2.2.2.1, Or.inl ⟨hend, ?_⟩⟩⟩
        · exact L19_0 _ _ _
        · rw [hend] at h2; exact h2
      · by_cases q2 : bt tp z a' = 44
        · obtain ⟨hlt2, h3⟩ := h2.step q1
          rw [if_neg q1, if_pos q2, if_pos q2, bd_s, bd_s]
          show ∃ σ' w, Option.bind (if (1 : Int32) = 0 then _ else some ((1 : Int32), yz σ2 3 (xz σ2 3 + 1))) _ = _ ∧ (if (1 : Int32) = 0 then _ else fR_rules_L40 (f + 1) (nI (r + 1)) 1 (pz ρ1 32 (gz ρ1 32 + 1))) = _ ∧ _
          rw [if_neg one_ne, if_neg one_ne, bd_s]
          obtain ⟨σ', w, w1, w2, w3⟩ := ih (i + 1) (r + 1) (a' + 1) _ _ h3 (by omega) (by omega)
          exact ⟨σ', w, w1, w2, w3⟩
        · have hin : a' < z := Classical.byContradiction fun e => q1 (if_neg e)
          rw [if_neg q1, if_neg q2, if_neg q2]
          refine ⟨yz (yz σ2 4 1) 5 (nI a'), Sum.inl (nI (r + 1), ρ1), ?_, ?_, Or.inr ⟨r + 1, a', ρ1, rfl, h2.2.2.2.1, h2.1.2.2.2.1, Or.inr ⟨hin, hz, h2.fail (by decide)⟩⟩⟩
          rotate_left
          · rw [bd_s, if_pos rfl]
            exact L40_0 f _ _
          show Option.bind (Option.bind (Option.bind (fC_Tr_fail σ2 1 (xz σ2 3)) _) _) _ = _
          rw [h2.2.2.1]
          exact L19_0 f _ _
theorem FR.rel {tp : Nat → Int32} (htp : ∀ i, ¬ tp i = -1) {c z : Nat} (hc : c ≤ 60) {σ : SC} {ρ : SR} (h : FR tp c z σ ρ) : Rel (yz (yz σ 2 0) 0 0) ρ := by
  obtain ⟨⟨g1, g2, g3, g4, g5, g6, g7, g8, g9⟩, f1, f2, -⟩ := h
  refine ⟨⟨g1.trans g2.symm, g5.symm, 0, by omega, g5, fun i => by rw [g2]; exact htp i⟩, ⟨rfl, g6.trans g7.symm, c, hc, g7, g8⟩, ⟨f1, f2⟩, g9.1, g9.2.1, g9.2.2.1, g9.2.2.2.1, g9.2.2.2.2.1, g9.2.2.2.2.2⟩
theorem PR.rel {tp : Nat → Int32} (htp : ∀ i, ¬ tp i = -1) {c z r a : Nat} {σ : SC} {ρ : SR} (h : PR tp c z r a σ ρ) : Rel (yz (yz (yz σ 1 (nI r)) 2 0) 0 0) (pz ρ 7 (nI r)) := by
  obtain ⟨⟨g1, g2, g3, g4, g5, g6, g7, g8, g9⟩, ⟨f1, f2, f3, f4⟩, a1, a2, a3, a4, a5, a6, a7, a8⟩ := h
  refine ⟨⟨g1.trans g2.symm, g5.symm, 0, by omega, g5, fun i => by show ¬ gf ρ 0 i = -1; rw [g2]; exact htp i⟩, ⟨rfl, rfl, r, a6, rfl, a8⟩, ⟨f1.trans f3.symm, f2.trans f4.symm⟩, g9.1, g9.2.1, g9.2.2.1, g9.2.2.2.1, g9.2.2.2.2.1, g9.2.2.2.2.2⟩
theorem cut0 {σ : SC} {z : Nat} (h : xz σ 0 = nI z) (hz : z ≤ 200) : fC_Ta_cutTo σ 0 = some (1, yz σ 0 0) := by
  rw [cutTo_eq, if_pos ⟨by decide, by rw [h]; exact nI_pos' (by omega)⟩]
theorem eq_rules {σ : SC} {ρ : SR} (h : Rel σ ρ) : ∃ r σ' ρ', fC_B_rules σ = some (r, σ') ∧ fR_rules ρ = some (r, ρ') ∧ Rel σ' ρ' := by
  obtain ⟨⟨t1, t2, z, hz, t3, htp⟩, ⟨u1, u2, c, hc, u3, u4⟩, -, k1, k2, k3, k4, k5, k6⟩ := h
  have hP : PR (gf ρ 0) c z c 0 (yz (yz (yz σ 3 0) 4 0) 5 0) (pz (pz (pz (pz (pz (pz ρ 31 0) 33 (gz ρ 1)) 1 0) 32 0) 2 0) 3 0) :=
    ⟨⟨t1, rfl, t2.trans t3, t3, rfl, u2.trans u3, u3, u4, k1, k2, k3, k4, k5, k6⟩, ⟨rfl, rfl, rfl, rfl⟩, rfl, rfl, Nat.zero_le _, hz, Nat.le_refl _, hc, by rw [Nat.sub_self]; exact u1, u4⟩
  have hx0 : xz σ 0 = nI z := t2.trans t3
  unfold fC_B_rules fC_Tr_readText fR_rules
  obtain ⟨σ', w, w1, w2, w3⟩ := text_loop htp 1000 0 c 0 _ _ hP (Nat.le_refl _) (by omega)
  rw [nI_0] at w1
  rw [w1, bd_s]
  show ∃ r σ'_1 ρ', _ ∧ Option.bind (fR_rules_L40 1000 (gz ρ 7) 1 (pz (pz (pz (pz (pz (pz ρ 31 0) 33 (gz ρ 1)) 1 0) 32 0) 2 0) 3 0)) _ = _ ∧ _
  rw [u3, w2, bd_s]
  rcases w3 with ⟨ρ', rfl, hF⟩ | ⟨r', a', ρ', rfl, g32, g33, ⟨ea, hP'⟩ | ⟨ha, hz', hF⟩⟩
  · rw [if_neg hF.2.2.2]
    unfold fC_Rb_dropProposed
    rw [bd_s, bd_s]
    show ∃ r σ'_1 ρ', Option.bind (fC_Ta_cutTo (yz σ' 2 0) 0) _ = _ ∧ _
    rw [cut0 (show xz (yz σ' 2 0) 0 = nI z from hF.1.2.2.1) hz]
    exact ⟨-1, _, _, rfl, rfl, hF.rel htp hc⟩
  · have hcr := hP'.2.2.2.2.2.2.1
    have hr6 := hP'.2.2.2.2.2.2.2.1
    rw [if_pos hP'.2.1.1]
    unfold fC_Rb_acceptProposed
    rw [bd_s, bd_s]
    show ∃ (x : Int32) (s1 : SC) (p1 : SR), Option.bind (fC_Ta_cutTo (yz (yz σ' 1 (xz σ' 1 + xz σ' 2)) 2 0) 0) _ = _ ∧ (if gz ρ' 33 ≤ gz ρ' 32 then some (nI r' - gz ρ' 7, pz ρ' 7 (nI r')) else _) = _ ∧ _
    have er : xz σ' 1 + xz σ' 2 = nI r' := by rw [hP'.1.2.2.2.2.2.1, hP'.2.2.2.2.2.2.2.2.1, nI_add]; congr 1; omega
    rw [cut0 (show xz (yz (yz σ' 1 (xz σ' 1 + xz σ' 2)) 2 0) 0 = nI z from hP'.1.2.2.1) hz, g33, g32, ea, if_pos (nI_le (Nat.le_refl _) (by omega)), hP'.1.2.2.2.2.2.2.1, pk_sub hcr, bd_s, er]
    refine ⟨nI (r' - c), _, _, ?_, rfl, hP'.rel htp⟩
    show some (xz σ' 2, _) = _
    rw [hP'.2.2.2.2.2.2.2.2.1]
  · rw [if_neg hF.2.2.2]
    unfold fC_Rb_dropProposed
    rw [bd_s, bd_s]
    show ∃ (x : Int32) (s1 : SC) (p1 : SR), Option.bind (fC_Ta_cutTo (yz σ' 2 0) 0) _ = _ ∧ (if gz ρ' 33 ≤ gz ρ' 32 then _ else Option.bind (fR_fails ρ' 1 (gz ρ' 32)) _) = _ ∧ _
    rw [cut0 (show xz (yz σ' 2 0) 0 = nI z from hF.1.2.2.1) hz, g33, g32, if_neg (nI_ge ha (by omega))]
    exact ⟨-1, _, _, rfl, rfl, hF.rel htp hc⟩
