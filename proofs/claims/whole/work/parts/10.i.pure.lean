/-! PURE: the month ends: dunning, the next month, close -/
theorem RelC.state0 {c k : Nat} {σ : SC} {ρ : SR} (h : RelC c k σ ρ) (i : Nat) (e : xm σ 3 i = 0) : RelC c k σ (pf ρ 12 i 0) := by
  refine ⟨h.1, h.2.1, h.2.2.1, h.2.2.2.1, ?_, h.2.2.2.2.2.1, h.2.2.2.2.2.2.1, h.2.2.2.2.2.2.2.1, h.2.2.2.2.2.2.2.2⟩
  refine h.2.2.2.2.1.at (i := i) rfl rfl (fun j e q => ?_) (fun q => ?_)
  · rw [colg_ne e]; exact q
  · rw [colg_eq]
    exact ⟨q.1, q.2.1, q.2.2.1, e, q.2.2.2.2.1, q.2.2.2.2.2.1, q.2.2.2.2.2.2.1, q.2.2.2.2.2.2.2.1, q.2.2.2.2.2.2.2.2.1, q.2.2.2.2.2.2.2.2.2.1, q.2.2.2.2.2.2.2.2.2.2.1, q.2.2.2.2.2.2.2.2.2.2.2.1, q.2.2.2.2.2.2.2.2.2.2.2.2.1, q.2.2.2.2.2.2.2.2.2.2.2.2.2.1, Or.inl rfl⟩
def jTail (u3 : SC) (i : Nat) (a3 a4 : Int32) : Option SC :=
  if a4 ≤ 0 then
  if a3 ≤ 0 then
  some u3
  else
  if xn u3 0 ≤ i then none else
  if (xm u3 5 i) < a3 then
  some u3
  else
  some (ym u3 3 i ((1 : Int32)))
  else
  if xn u3 0 ≤ i then none else
  if (xm u3 5 i) < a4 then
  if a3 ≤ 0 then
  some u3
  else
  if (xm u3 5 i) < a3 then
  some u3
  else
  some (ym u3 3 i ((1 : Int32)))
  else
  some (ym u3 3 i ((2 : Int32)))
theorem jTail_0 {u3 : SC} {i : Nat} {a3 a4 : Int32} (hi : i < xn u3 0) (h0 : xm u3 5 i = 0) : jTail u3 i a3 a4 = some u3 := by
  unfold jTail
  rw [h0, if_neg (Nat.not_le.mpr hi), if_neg (Nat.not_le.mpr hi)]
  by_cases c4 : a4 ≤ 0
  · rw [if_pos c4]
    by_cases c3 : a3 ≤ 0
    · rw [if_pos c3]
    · rw [if_neg c3, if_pos (iNle.mp c3)]
  · rw [if_neg c4, if_pos (iNle.mp c4)]
    by_cases c3 : a3 ≤ 0
    · rw [if_pos c3]
    · rw [if_neg c3, if_pos (iNle.mp c3)]
def jTailR (ρ : SR) (i : Nat) (u5 u4 : Int32) : Option SR :=
  if u4 ≤ 0 then
    if u5 ≤ 0 then
    some ρ
    else
    if (gf ρ 14 i) < u5 then
    some ρ
    else
    some (pf ρ 12 i ((1 : Int32)))
    else
    if (gf ρ 14 i) < u4 then
    if u5 ≤ 0 then
    some ρ
    else
    if (gf ρ 14 i) < u5 then
    some ρ
    else
    some (pf ρ 12 i ((1 : Int32)))
    else
    some (pf ρ 12 i ((2 : Int32)))
theorem jTail_eq {c k : Nat} {σ : SC} {ρ : SR} (h : RelC c k σ ρ) {i : Nat} (hi : i < xn σ 0) (a3 a4 : Int32) : ∃ σ' ρ', jTail σ i a3 a4 = some σ' ∧ jTailR ρ i a3 a4 = some ρ' ∧ RelC c k σ' ρ' ∧ xn σ' = xn σ ∧ xz σ' = xz σ ∧ xf σ' = xf σ := by
  unfold jTail jTailR
  have e : xm σ 5 i = gf ρ 14 i := (h.2.2.2.2.1.2.2 i hi).2.2.2.2.2.1
  have r0 : ∃ σ' ρ', some σ = some σ' ∧ some ρ = some ρ' ∧ RelC c k σ' ρ' ∧ xn σ' = xn σ ∧ xz σ' = xz σ ∧ xf σ' = xf σ := ⟨σ, ρ, rfl, rfl, h, rfl, rfl, rfl⟩
  have r1 : ∃ σ' ρ', some (ym σ 3 i 1) = some σ' ∧ some (pf ρ 12 i 1) = some ρ' ∧ RelC c k σ' ρ' ∧ xn σ' = xn σ ∧ xz σ' = xz σ ∧ xf σ' = xf σ := ⟨_, _, rfl, rfl, h.state i (Or.inr (Or.inl rfl)), rfl, rfl, rfl⟩
  have r2 : ∃ σ' ρ', some (ym σ 3 i 2) = some σ' ∧ some (pf ρ 12 i 2) = some ρ' ∧ RelC c k σ' ρ' ∧ xn σ' = xn σ ∧ xz σ' = xz σ ∧ xf σ' = xf σ := ⟨_, _, rfl, rfl, h.state i (Or.inr (Or.inr rfl)), rfl, rfl, rfl⟩
  rw [if_neg (Nat.not_le.mpr hi), if_neg (Nat.not_le.mpr hi), e]
  by_cases c4 : a4 ≤ 0
  · rw [if_pos c4, if_pos c4]
    by_cases c3 : a3 ≤ 0
    · rw [if_pos c3, if_pos c3]; exact r0
    · rw [if_neg c3, if_neg c3]
      by_cases q : gf ρ 14 i < a3
      · rw [if_pos q, if_pos q]; exact r0
      · rw [if_neg q, if_neg q]; exact r1
  · rw [if_neg c4, if_neg c4]
    by_cases q4 : gf ρ 14 i < a4
    · rw [if_pos q4, if_pos q4]
      by_cases c3 : a3 ≤ 0
      · rw [if_pos c3, if_pos c3]; exact r0
      · rw [if_neg c3, if_neg c3]
        by_cases q : gf ρ 14 i < a3
        · rw [if_pos q, if_pos q]; exact r0
        · rw [if_neg q, if_neg q]; exact r1
    · rw [if_neg q4, if_neg q4]; exact r2
theorem dun_step (n : Nat) (x1 : Int32) (ρ : SR) : fR_dun_L2 (n + 1) x1 ρ = (if gz ρ 19 ≤ x1 then some ρ else if x1 < 0 ∨ 40 ≤ x1.toNatClampNeg then none else
    Option.bind (if gf ρ 12 x1.toNatClampNeg = 2 then some ρ else Option.bind (fR_owes ρ x1) (fun u3 => if u3 = 0 then some (pf (pf ρ 14 x1.toNatClampNeg 0) 12 x1.toNatClampNeg 0) else
      Option.bind (fR_ruleOf (pf ρ 14 x1.toNatClampNeg (gf ρ 14 x1.toNatClampNeg + 1)) 6 (gz (pf ρ 14 x1.toNatClampNeg (gf ρ 14 x1.toNatClampNeg + 1)) 20)) (fun u4 =>
      Option.bind (fR_ruleOf (pf ρ 14 x1.toNatClampNeg (gf ρ 14 x1.toNatClampNeg + 1)) 5 (gz (pf ρ 14 x1.toNatClampNeg (gf ρ 14 x1.toNatClampNeg + 1)) 20)) (fun u5 => jTailR (pf ρ 14 x1.toNatClampNeg (gf ρ 14 x1.toNatClampNeg + 1)) x1.toNatClampNeg u5 u4)))) (fun u2 => fR_dun_L2 n (x1 + 1) u2)) := by
  rw [fR_dun_L2]
  rfl
theorem judge_eq {c k : Nat} {σ σ0 : SC} {ρ : SR} (h : RelC c k σ ρ) {i de du en : Nat} (hi : i < xn σ 0) (hs : ¬ gf ρ 12 i = 2) (hz : xz σ = xz σ0) (hx : xf σ = xf σ0) (r4 : fC_Cl_inForceNow σ0 (nI 4) = some (nI de)) (r5 : fC_Cl_inForceNow σ0 (nI 5) = some (nI du)) (r6 : fC_Cl_inForceNow σ0 (nI 6) = some (nI en)) :
    ∃ σ' ρ', fC_Cl_judgeDebt σ (some i) (nI de) (nI du) (nI en) = some σ' ∧ Option.bind (fR_owes ρ (nI i)) (fun u3 => if u3 = 0 then some (pf (pf ρ 14 i 0) 12 i 0) else
      Option.bind (fR_ruleOf (pf ρ 14 i (gf ρ 14 i + 1)) 6 (gz (pf ρ 14 i (gf ρ 14 i + 1)) 20)) (fun u4 =>
      Option.bind (fR_ruleOf (pf ρ 14 i (gf ρ 14 i + 1)) 5 (gz (pf ρ 14 i (gf ρ 14 i + 1)) 20)) (fun u5 => jTailR (pf ρ 14 i (gf ρ 14 i + 1)) i u5 u4))) = some ρ' ∧ RelC c k σ' ρ' ∧ xn σ' = xn σ ∧ xz σ' = xz σ ∧ xf σ' = xf σ := by
  obtain ⟨v, u, -, f1, f2, f3, f4⟩ := owes_eq h hi
  have f1' : fC_Cl_inForceNow σ (nI 4) = some (nI v) := f1
  rw [inForceNow_congr hz hx, r4] at f1'
  rw [← Option.some.inj f1'] at f2
  have q := h.2.2.2.2.1.2.2 i hi
  have es : xm σ 3 i = gf ρ 12 i := q.2.2.2.1
  have eo : xm σ 5 i = gf ρ 14 i := q.2.2.2.2.2.1
  have e01 : xm σ 3 i = 0 ∨ xm σ 3 i = 1 := by
    rcases q.2.2.2.2.2.2.2.2.2.2.2.2.2.2 with e | e | e
    · exact Or.inl (es.trans e)
    · exact Or.inr (es.trans e)
    · exact absurd e hs
  have eJ : fC_Cl_judgeDebt σ (some i) (nI de) (nI du) (nI en) = Option.bind (if u = 0 then fC_Me_owesNoLonger σ i else some (ym σ 5 i (xm σ 5 i + 1))) (fun u3 => jTail u3 i (nI du) (nI en)) := by
    unfold fC_Cl_judgeDebt
    show (if xn σ 0 ≤ i then none else _) = _
    rw [if_neg (Nat.not_le.mpr hi), f2, bd_s]
    by_cases c0 : u = 0
    · rw [if_pos c0, if_pos c0]
      cases fC_Me_owesNoLonger σ i <;> rfl
    · rw [if_neg c0, if_neg c0]
      rfl
  rw [eJ, f3, bd_s]
  by_cases c0 : u = 0
  · rw [if_pos c0, if_pos c0]
    unfold fC_Me_owesNoLonger
    rw [if_neg (Nat.not_le.mpr hi)]
    have es' : xm (ym σ 5 i 0) 3 i = xm σ 3 i := rfl
    rw [es']
    rcases e01 with e | e
    · rw [e, if_neg (by decide), bd_s, jTail_0 (show i < xn (ym σ 5 i 0) 0 from hi) (by rw [xmym_eq, pk_us])]
      exact ⟨_, _, rfl, rfl, (h.owing i 0).state0 i e, rfl, rfl, rfl⟩
    · rw [if_pos e, bd_s, jTail_0 (show i < xn (ym (ym σ 5 i 0) 3 i 0) 0 from hi) (by show xm (ym σ 5 i 0) 5 i = 0; rw [xmym_eq, pk_us])]
      exact ⟨_, _, rfl, rfl, (h.owing i 0).state i (Or.inl rfl), rfl, rfl, rfl⟩
  · rw [if_neg c0, if_neg c0, bd_s, eo]
    have hO := h.owing i (gf ρ 14 i + 1)
    have kz : xz (ym σ 5 i (gf ρ 14 i + 1)) = xz σ0 := hz
    have kx : xf (ym σ 5 i (gf ρ 14 i + 1)) = xf σ0 := hx
    have g6 := rule_fix hO (j := 6) (by omega) kz kx r6
    have g5 := rule_fix hO (j := 5) (by omega) kz kx r5
    rw [show (6 : Int32) = nI 6 from rfl, show (5 : Int32) = nI 5 from rfl, g6, bd_s, g5, bd_s]
    obtain ⟨σ', ρ', t1, t2, t3, t4, t5, t6⟩ := jTail_eq hO (i := i) hi (nI du) (nI en)
    exact ⟨σ', ρ', t1, t2, t3, t4, t5, t6⟩
theorem dun_loop {c k : Nat} {σ0 : SC} {m de du en : Nat} (r4 : fC_Cl_inForceNow σ0 (nI 4) = some (nI de)) (r5 : fC_Cl_inForceNow σ0 (nI 5) = some (nI du)) (r6 : fC_Cl_inForceNow σ0 (nI 6) = some (nI en)) : ∀ (f i : Nat) (σ : SC) (ρ : SR), i ≤ xn σ 0 → xn σ 0 - i < f → RelC c k σ ρ → xn σ 3 = m → xz σ = xz σ0 → xf σ = xf σ0 →
    ∃ σ' ρ', fC_Cl_judgeDebts_L22 (nI de) (nI du) (nI en) f (nI i) σ = some σ' ∧ fR_dun_L2 f (nI i) ρ = some ρ' ∧ RelC c k σ' ρ' ∧ xn σ' 3 = m := by
  intro f
  induction f with
  | zero => intro i σ ρ _ q; omega
  | succ f ih =>
    intro i σ ρ hi hf h hm hz hx
    obtain ⟨m1, m2, m3⟩ := h.2.2.2.2.1
    rw [fC_Cl_judgeDebts_L22, dun_step, m1]
    by_cases c : i = xn σ 0
    · rw [← c, if_pos (nI_le (Nat.le_refl _) (by omega)), if_pos (nI_le (Nat.le_refl _) (by omega))]
      exact ⟨σ, ρ, rfl, rfl, h, hm⟩
    · have hlt' : i < xn σ 0 := by omega
      rw [if_neg (nI_ge hlt' (by omega)), if_neg (nI_ge hlt' (by omega)), if_neg (ix_ok hlt' (by omega)), if_neg (ix_ok (n := 40) (by omega) (by omega)), nI_clamp (by omega), nI_1]
      have es : xm σ 3 i = gf ρ 12 i := (m3 i hlt').2.2.2.1
      rw [es]
      by_cases c2 : gf ρ 12 i = 2
      · rw [if_pos c2, if_pos c2, bd_s, bd_s]
        exact ih (i + 1) σ ρ (by omega) (by omega) h hm hz hx
      · obtain ⟨σ', ρ', t1, t2, t3, t4, t5, t6⟩ := judge_eq h hlt' c2 hz hx r4 r5 r6
        rw [if_neg c2, if_neg c2, t1, t2, bd_s, bd_s, bd_s]
        exact ih (i + 1) σ' ρ' (by rw [t4]; omega) (by rw [t4]; omega) t3 (by rw [t4]; exact hm) (t5.trans hz) (t6.trans hx)
/-! the next month -/
theorem RelC.next {x : Nat} {σ : SC} {ρ : SR} (h : RelC 40 x σ ρ) (hm : xn σ 3 < 60) : Rel (yNow (addC (yz σ 6 (xz σ 6 + 1)) (fun _ => 0)) (xn σ 1)) (pz ρ 20 (gz ρ 20 + 1)) := by
  obtain ⟨⟨h1, h2, h3, h4, h5, h6, h7⟩, hS, hE⟩ := h.2.2.2.2.2.1
  have n3 : xn (yNow (addC (yz σ 6 (xz σ 6 + 1)) (fun _ => 0)) (xn σ 1)) 3 = xn σ 3 + 1 := h4
  have n1 : xn (yNow (addC (yz σ 6 (xz σ 6 + 1)) (fun _ => 0)) (xn σ 1)) 1 = xn σ 1 + 1 := rfl
  have nc : ∀ k, xc (yNow (addC (yz σ 6 (xz σ 6 + 1)) (fun _ => 0)) (xn σ 1)) k = upd (xc σ k) (xn σ 1) 0 := fun k => rfl
  have n6 : xz (yNow (addC (yz σ 6 (xz σ 6 + 1)) (fun _ => 0)) (xn σ 1)) 6 = xz σ 6 + 1 := rfl
  have n20 : gz (pz ρ 20 (gz ρ 20 + 1)) 20 = gz ρ 20 + 1 := rfl
  have n21 : gf (pz ρ 20 (gz ρ 20 + 1)) 21 = gf ρ 21 := rfl
  refine ⟨h.1, h.2.1, h.2.2.1, h.2.2.2.1, h.2.2.2.2.1, ⟨⟨?_, ?_, ?_, ?_, ?_, ?_, ?_⟩, ?_, ?_⟩, h.2.2.2.2.2.2.1, h.2.2.2.2.2.2.2.1, h.2.2.2.2.2.2.2.2⟩
  · rw [n6, n20, h1]
  · rw [n20, n3, h2, nI_1]
  · rw [n3]; omega
  · rw [n1, n3, h4]
  · intro j k hj hk
    rw [n3] at hj
    rw [nc, n21, h4]
    by_cases e : j = xn σ 3 + 1
    · subst e
      rw [pk_us, h6 _ (by omega)]
    · rw [pk_un e]
      exact h5 j k (by omega) hk
  · intro i hi
    rw [n3] at hi
    rw [n21]
    exact h6 i (by omega)
  · intro j hj
    rw [n3] at hj
    rw [n21]
    by_cases e : j = xn σ 3 + 1
    · subst e
      exact ⟨0, by omega, h6 _ (by omega)⟩
    · exact h7 j (by omega)
  · intro j hj
    rw [n3] at hj ⊢
    rw [n21]
    by_cases e : j = xn σ 3 + 1
    · subst e
      exact ⟨0, 0, by omega, by omega, h6 _ (by omega), h6 _ (by omega)⟩
    · obtain ⟨pr, st, a, b, e1, e2⟩ := hS j (by omega)
      exact ⟨pr, st, a, by omega, e1, e2⟩
  · show gf (pz ρ 20 (gz ρ 20 + 1)) 21 (8 * xn (yNow (addC (yz σ 6 (xz σ 6 + 1)) (fun _ => 0)) (xn σ 1)) 3 + 3) = nI 0
    rw [n3, n21]
    exact h6 _ (by omega)
theorem RelC.unref {c k : Nat} {σ : SC} {ρ : SR} (h : RelC c k σ ρ) (i : Nat) (v : Int32) : RelC c k (ym σ 7 i v) (pf ρ 15 i v) := by
  refine ⟨h.1, h.2.1, h.2.2.1, h.2.2.2.1, ?_, h.2.2.2.2.2.1, h.2.2.2.2.2.2.1, h.2.2.2.2.2.2.2.1, h.2.2.2.2.2.2.2.2⟩
  refine h.2.2.2.2.1.at (i := i) rfl rfl (fun j e q => ?_) (fun q => ?_)
  · rw [colm_ne e, colg_ne e]; exact q
  · rw [colm_eq, colg_eq]
    exact ⟨q.1, q.2.1, q.2.2.1, q.2.2.2.1, q.2.2.2.2.1, q.2.2.2.2.2.1, rfl, q.2.2.2.2.2.2.2⟩
theorem unref_loop {c k : Nat} (l : Int32) : ∀ (f i : Nat) (σ : SC) (ρ : SR), i ≤ xn σ 0 → xn σ 0 - i < f → RelC c k σ ρ → ∃ σ' ρ', fC_Cl_beginNextMonth_L35 f (nI i) σ = some σ' ∧ fR_close_L62 l f (nI i) ρ = some ρ' ∧ RelC c k σ' ρ' := by
  intro f
  induction f with
  | zero => intro i σ ρ _ q; omega
  | succ f ih =>
    intro i σ ρ hi hf h
    obtain ⟨m1, m2, m3⟩ := h.2.2.2.2.1
    rw [fC_Cl_beginNextMonth_L35, fR_close_L62, m1]
    by_cases c : i = xn σ 0
    · rw [← c, if_pos (nI_le (Nat.le_refl _) (by omega)), if_pos (nI_le (Nat.le_refl _) (by omega))]
      exact ⟨σ, ρ, rfl, rfl, h⟩
    · have hlt' : i < xn σ 0 := by omega
      rw [if_neg (nI_ge hlt' (by omega)), if_neg (nI_ge hlt' (by omega)), if_neg (ix_ok hlt' (by omega)), if_neg (ix_ok (n := 40) (by omega) (by omega)), nI_clamp (by omega), nI_1]
      exact ih (i + 1) (ym σ 7 i 0) (pf ρ 15 i 0) (by show i + 1 ≤ xn σ 0; omega) (by show xn σ 0 - (i + 1) < f; omega) (h.unref i 0)
theorem next_eq {x : Nat} {σ : SC} {ρ : SR} (h : RelC 40 x σ ρ) (hm : xn σ 3 < 60) (l : Int32) : ∃ σ' ρ', fC_Cl_beginNextMonth σ = some σ' ∧ fR_close_L62 l 1000 0 (pz ρ 20 (gz ρ 20 + 1)) = some ρ' ∧ Rel σ' ρ' := by
  have hN := h.next hm
  have h4 := h.2.2.2.2.2.1.1.2.2.2.1
  have h40 := h.2.2.2.2.1.2.1
  unfold fC_Cl_beginNextMonth
  obtain ⟨σ', ρ', e1, e2, e3⟩ := unref_loop (c := 0) (k := 0) l 1000 0 _ _ (Nat.zero_le _) (by show xn σ 0 - 0 < 1000; omega) hN
  rw [nI_0] at e1 e2
  refine ⟨σ', ρ', ?_, e2, e3⟩
  refine (if_neg (show ¬ 61 ≤ xn σ 1 by rw [h4]; omega)).trans ?_
  refine (congrArg (fun z => Option.bind z _) e1).trans rfl
theorem percent_eq {σ : SC} {j p v : Nat} (hj : ¬ xn σ 1 ≤ j) (hp : xc σ 0 j = nI p) (h1 : p ≤ 5000) (h2 : v ≤ 10000) : fC_Co_percentOfPrice σ j (nI v) = some (nI (p * v / 100)) := by
  unfold fC_Co_percentOfPrice
  have hmul := mul_bd h1 h2
  rw [if_neg hj, hp, pk_mul, show (100 : Int32) = nI 100 from rfl, pk_div (by omega) (by omega) (by omega)]
theorem findChoice_some {σ : SC} {j : Nat} (hj : j < xn σ 1) (h : xn σ 1 ≤ 61) : fC_Cl_findChoice σ (nI j) = some (some j) := by
  unfold fC_Cl_findChoice
  have e : nI (xn σ 1) - 1 = nI (xn σ 1 - 1) := by
    have := nI_pred (xn σ 1 - 1)
    rw [show xn σ 1 - 1 + 1 = xn σ 1 by omega] at this
    exact this
  rw [fC_isWithin_eq, e, wi_t ⟨nI_pos' (by omega), nI_le (by omega) (by omega)⟩, bd_s, if_neg one_ne, if_neg (ix_ok hj (by omega)), nI_clamp (by omega)]
theorem findChoice_none {σ : SC} : fC_Cl_findChoice σ (-1) = some none := by
  unfold fC_Cl_findChoice
  rw [fC_isWithin_eq, wi_f (fun q => absurd q.1 (by decide))]
  rfl
theorem takeBack_eq {σ : SC} {ρ : SR} (h : RelC 0 0 σ ρ) (h2 : xn σ 2 ≤ 700) : ∃ σ' ρ', fC_Cl_takeBackRefused σ = some σ' ∧ (if gz ρ 20 ≤ 0 then some ρ else Option.bind (fR_takeBack ρ) (fun u2 => some u2)) = some ρ' ∧ RelC 40 0 σ' ρ' ∧ xn σ' 3 = xn σ 3 ∧ xn σ' 2 ≤ 780 := by
  have hMo := h.2.2.2.2.2.1.1
  have h60 := hMo.2.2.1
  unfold fC_Cl_takeBackRefused
  rw [hMo.1, hMo.2.1]
  rcases hm : xn σ 3 with _ | m
  · rw [show nI 0 - 1 = (-1 : Int32) by decide, findChoice_none, bd_s, if_pos (by decide)]
    exact ⟨σ, ρ, rfl, rfl, h.mono (by omega), hm, by omega⟩
  · rw [nI_pred, findChoice_some (by rw [hMo.2.2.2.1]; omega) (by rw [hMo.2.2.2.1]; omega), bd_s, if_neg (nI_nle (by omega) (by omega))]
    obtain ⟨lt, hlt, e1, -⟩ := inForceNow_eq h (j := 1) (by omega)
    obtain ⟨p, hp, ep⟩ := hMo.2.2.2.2.2.2 m (by omega)
    have x0 : xc σ 0 m = nI p := (hMo.2.2.2.2.1 m 0 (by omega) (by omega)).trans ep
    have hj : ¬ xn σ 1 ≤ m := by rw [hMo.2.2.2.1]; omega
    have h40 := h.2.2.2.2.1.2.1
    have hmul := mul_bd hp hlt
    obtain ⟨σ', ρ', t1, t2, t3, t4, t5, -⟩ := tb_loop (σ0 := σ) (m := m) (fi := p * lt / 100) hp hlt rfl (by omega) e1 1000 0 σ ρ (Nat.zero_le _) (by omega) h hm (by omega) rfl rfl ep
    rw [nI_0] at t1 t2
    refine ⟨σ', ρ', ?_, ?_, t3, by omega, t5⟩
    · show Option.bind (fC_Cl_inForceNow σ (nI 1)) _ = _
      rw [e1, bd_s, if_neg hj, percent_eq hj x0 hp hlt, bd_s, t1]
      rfl
    · unfold fR_takeBack
      rw [hMo.2.1, hm, nI_pred, m8, t2]
      rfl
theorem sendAll_eq {σ : SC} {ρ : SR} (h : RelC 40 0 σ ρ) (h2 : xn σ 2 ≤ 780) : ∃ σ' ρ' x', fC_Cl_sendChoice σ = some σ' ∧ fR_sendAll ρ = some (nI x', ρ') ∧ RelC 40 x' σ' ρ' ∧ xn σ' 3 = xn σ 3 := by
  have hMo := h.2.2.2.2.2.1.1
  have h60 := hMo.2.2.1
  have h40 := h.2.2.2.2.1.2.1
  have hj : ¬ xn σ 1 ≤ xn σ 3 := by rw [hMo.2.2.2.1]; omega
  obtain ⟨lim, hl, e0, -⟩ := inForceNow_eq h (j := 0) (by omega)
  obtain ⟨bon, hb, e2, -⟩ := inForceNow_eq h (j := 2) (by omega)
  obtain ⟨part, hpa, e7, -⟩ := inForceNow_eq h (j := 7) (by omega)
  obtain ⟨p, hp, ep⟩ := hMo.2.2.2.2.2.2 (xn σ 3) (Nat.le_refl _)
  have x0 : xc σ 0 (xn σ 3) = nI p := (hMo.2.2.2.2.1 _ 0 (Nat.le_refl _) (by omega)).trans ep
  obtain ⟨σ', ρ', x', t1, t2, t3, t4, -⟩ := sa_loop (σ0 := σ) (m := xn σ 3) hp hl hb hpa e0 e2 e7 1000 0 0 σ ρ (Nat.zero_le _) (by omega) h rfl (by omega) rfl rfl ep
  rw [nI_0] at t1 t2
  refine ⟨σ', ρ', x', ?_, ?_, t3, t4⟩
  · unfold fC_Cl_sendChoice
    rw [nI_0] at e0
    rw [e0, bd_s, show (2 : Int32) = nI 2 from rfl, e2, bd_s, show (7 : Int32) = nI 7 from rfl, e7, bd_s, if_neg hj, percent_eq hj x0 hp hpa, bd_s, t1]
    rfl
  · unfold fR_sendAll
    rw [hMo.2.1, m8, if_neg (cell_ix0 h60), nI_clamp (by omega), ep, t2]
    rfl
theorem dun_eq {c k : Nat} {σ : SC} {ρ : SR} (h : RelC c k σ ρ) : ∃ σ' ρ', fC_Cl_judgeDebts σ = some σ' ∧ fR_dun ρ = some ρ' ∧ RelC c k σ' ρ' ∧ xn σ' 3 = xn σ 3 := by
  obtain ⟨de, -, e4, -⟩ := inForceNow_eq h (j := 4) (by omega)
  obtain ⟨du, -, e5, -⟩ := inForceNow_eq h (j := 5) (by omega)
  obtain ⟨en, -, e6, -⟩ := inForceNow_eq h (j := 6) (by omega)
  have h40 := h.2.2.2.2.1.2.1
  obtain ⟨σ', ρ', t1, t2, t3, t4⟩ := dun_loop (σ0 := σ) e4 e5 e6 1000 0 σ ρ (Nat.zero_le _) (by omega) h rfl rfl rfl
  rw [nI_0] at t1 t2
  refine ⟨σ', ρ', ?_, ?_, t3, t4⟩
  · unfold fC_Cl_judgeDebts
    rw [show (4 : Int32) = nI 4 from rfl, e4, bd_s, show (5 : Int32) = nI 5 from rfl, e5, bd_s, show (6 : Int32) = nI 6 from rfl, e6, bd_s, t1]
    rfl
  · unfold fR_dun
    rw [t2]
    rfl
theorem eq_close {σ : SC} {ρ : SR} (h0 : Rel σ ρ) : ∃ r σ' ρ', fC_B_close σ = some (r, σ') ∧ fR_close ρ = some (r, ρ') ∧ Rel σ' ρ' := by
  have h : RelC 0 0 σ (pz ρ 31 0) := h0.thrown 0
  unfold fC_B_close fC_Cl_endMonth fR_close
  generalize pz ρ 31 0 = ρ1 at *
  have hMo := h.2.2.2.2.2.1.1
  have h60 := hMo.2.2.1
  have hE := h.2.2.2.2.2.2.1
  have hn := hE.2.1
  unfold fC_Le_roomLeft
  rw [hMo.1, hMo.2.1, hE.1, room_eq hn, bd_s]
  by_cases c1 : xn σ 3 = 60
  · rw [c1, if_pos (by decide), if_pos (by decide)]
    exact ⟨-1, _, _, rfl, rfl, h⟩
  · rw [if_neg (show ¬ (60 : Int32) ≤ nI (xn σ 3) from nI_ge (b := 60) (by omega) (by omega)), if_neg (show ¬ nI (xn σ 3) = (60 : Int32) from fun q => c1 ((nI_eq (b := 60) (by omega) (by omega)).mp q))]
    by_cases c2 : xn σ 2 ≤ 700
    · rw [if_pos (show (200 : Int32) ≤ nI (900 - xn σ 2) from nI_le (a := 200) (by omega) (by omega)), if_pos (show (200 : Int32) ≤ nI (900 - xn σ 2) from nI_le (a := 200) (by omega) (by omega))]
      obtain ⟨σ1, ρ2, a1, a2, a3, a4, a5⟩ := takeBack_eq h c2
      rw [hMo.2.1] at a2
      rw [a1, bd_s, a2, bd_s]
      obtain ⟨σ2, ρ3, x, b1, b2, b3, b4⟩ := sendAll_eq a3 a5
      rw [b1, bd_s, b2, bd_s]
      have hM2 := b3.2.2.2.2.2.1.1
      obtain ⟨σ3, ρ4, d1, d2, d3, d4⟩ := dun_eq b3
      rw [if_neg (show ¬ xn σ2 1 ≤ xn σ2 3 by rw [hM2.2.2.2.1]; omega), d1, bd_s]
      show ∃ r σ' ρ', _ ∧ Option.bind (fR_dun ρ3) _ = _ ∧ _
      rw [d2, bd_s]
      obtain ⟨σ4, ρ5, f1, f2, f3⟩ := next_eq d3 (by omega) (nI x)
      rw [f1, bd_s]
      show ∃ r σ' ρ', _ ∧ Option.bind (fR_close_L62 (nI x) 1000 0 (pz ρ4 20 (gz ρ4 20 + 1))) _ = _ ∧ _
      rw [f2, bd_s]
      refine ⟨nI x, σ4, ρ5, ?_, rfl, f3⟩
      have x3 : xc σ2 3 (xn σ2 3) = nI x := (hM2.2.2.2.2.1 _ 3 (Nat.le_refl _) (by omega)).trans b3.2.2.2.2.2.1.2.2
      rw [x3]
    · rw [if_neg (show ¬ (200 : Int32) ≤ nI (900 - xn σ 2) from nI_ge (b := 200) (by omega) (by omega)), if_neg (show ¬ (200 : Int32) ≤ nI (900 - xn σ 2) from nI_ge (b := 200) (by omega) (by omega))]
      exact ⟨-1, _, _, rfl, rfl, h⟩
