set_option maxRecDepth 100000 in
set_option maxHeartbeats 4000000 in
/-- add(e), out of add(e, data, s), at a round charge -/
theorem cG_add1U (l : Launch) (D : va_G) (tys : List (ClassId × FieldType)) (A : Nat → Prop) (kk : Nat → Nat) (ws : va_W) {k0 q x da n N cn : Nat} {mc : Int32} {wf : Nat → va_W} {γ : Type} {post : γ → Prop} {wu : γ → va_W} (hcn : cn ≤ 1) (hN9 : N ≤ 1240) (hcv : ∀ (a : Nat) (t : State), GW D tys A kk (wf a) t → ∃ u : γ, post u ∧ GW D tys A kk (wu u) t) (hk : ws[k0]? = some (q, .inr (0, [.int mc, .ref da, .int (nI n)])))
    (hM : Met l yJx4a65c_add_72be8 (Cond.code yJx4a65c_add_72be8 cJx4a65c_add_72be8 4 none :: wsL) { frames := 5, cells := cn, slots := N, locals := 147 } (va_Pc [.ref q, .ref x, .ref da, .int (nI n)] (GW D tys A kk (ws.set k0 (q, .inr (0, [.int (mc + 1), .ref da, .int (nI n)]))))) (va_Qv (fun (_ : Nat) => True) (fun a t => GW D tys A kk (wf a) t) A) cn N A) :
    Met l yJx4a65c_add_9ea2d (Cond.code yJx4a65c_add_9ea2d cJx4a65c_add_9ea2d 2 (some .boolean) :: wsL) { frames := 6, cells := 1, slots := 1240, locals := 170 } (va_Pc [.ref q, .ref x] (GW D tys A kk ws)) (va_Qi (fun r (u : γ) => r = 1 ∧ post u) (fun u t => GW D tys A kk (wu u) t) A) 1 1240 A := by
  refine Mg.of (own := RJx4a65c) rfl (by decide +kernel) (Nat.le_of_ble_eq_true rfl) ?_
  intro p e s m args below meth c ls S hr hlk hG hl
  obtain ⟨hP, hD, hK, hC, hN, hA⟩ := hG
  have hS : va_S A s.heap s.heap [] := va_S.rf
  have hl : lv_has ls 2 [(0, .ref q), (1, .ref x)] := hl
  have hk1 : (ws.set k0 (q, .inr (0, [.int (mc + 1), .ref da, .int (nI n)])))[k0]? = some (q, .inr (0, [.int (mc + 1), .ref da, .int (nI n)])) := List.getElem?_set_self (List.getElem?_eq_some_iff.mp hk).1
  refine lv_aload_n S.1 S.2.1 dJx4a65c_add_9ea2d_0 rfl (lv_at hl 0 rfl) ?_
  refine lv_dup S.1 S.2.1 dJx4a65c_add_9ea2d_1 rfl ?_
  refine va_get (D := D) (ci := 0) (v := .int mc) (C := RJx4a65c) (T := TJx4a65c) (N := 3) S.1 S.2.1 S.2.2.2.2 inJx4a65c S.2.2.2.1 hK hP k0 hk rfl 0 (by decide) (S.2.2.2.2 _ m_117) (fun x9 h9 => u_same (S.2.2.2.2 _ m_118) x9 h9) rfl dJx4a65c_add_9ea2d_2 ?_
  refine lv_iconst (v := 1) S.1 S.2.1 dJx4a65c_add_9ea2d_5 (by decide) ?_
  refine lv_iadd S.1 S.2.1 dJx4a65c_add_9ea2d_6 ?_
  refine va_put (D := D) (ci := 0) (v := .int (mc + 1)) (ty := .int) (C := RJx4a65c) (T := TJx4a65c) (N := 3) S.1 S.2.1 S.2.2.2.2 inJx4a65c tyJx4a65c tyJx4a65c_ok nmJx4a65c S.2.2.2.1 hK hP hD hS k0 hk rfl 0 (by decide) (S.2.2.2.2 _ m_117) (fun x9 h9 => u_same (S.2.2.2.2 _ m_118) x9 h9) rfl (by decide +kernel) rfl rfl (Nat.le_of_ble_eq_true rfl) dJx4a65c_add_9ea2d_7 (fun H locs hP hD hS => ?_)
  have hP : va_P D vwCl (ws.set k0 (q, .inr (0, [.int (mc + 1), .ref da, .int (nI n)]))) H := hP
  have hD : va_D A (ws.set k0 (q, .inr (0, [.int (mc + 1), .ref da, .int (nI n)]))) := hD
  refine lv_aload_n S.1 S.2.1 dJx4a65c_add_9ea2d_10 rfl (lv_at hl 0 rfl) ?_
  refine lv_aload_n S.1 S.2.1 dJx4a65c_add_9ea2d_11 rfl (lv_at hl 1 rfl) ?_
  refine lv_aload_n S.1 S.2.1 dJx4a65c_add_9ea2d_12 rfl (lv_at hl 0 rfl) ?_
  refine va_get (D := D) (ci := 0) (v := .ref da) (C := RJx4a65c) (T := TJx4a65c) (N := 3) S.1 S.2.1 S.2.2.2.2 inJx4a65c S.2.2.2.1 hK hP k0 hk1 rfl 1 (by decide) (S.2.2.2.2 _ m_92) (fun _ h => h) rfl dJx4a65c_add_9ea2d_13 ?_
  refine lv_aload_n S.1 S.2.1 dJx4a65c_add_9ea2d_16 rfl (lv_at hl 0 rfl) ?_
  refine va_get (D := D) (ci := 0) (v := .int (nI n)) (C := RJx4a65c) (T := TJx4a65c) (N := 3) S.1 S.2.1 S.2.2.2.2 inJx4a65c S.2.2.2.1 hK hP k0 hk1 rfl 2 (by decide) (S.2.2.2.2 _ m_119) (fun _ h => h) rfl dJx4a65c_add_9ea2d_17 ?_
  refine va_callv (va_runV (As := [.ref x, .ref da, .int (nI n)]) (rest := []) (n := 3) S hM (cwV 3 S.2.2.2.2 (gd_V m_120 m_121 m_122 m_72 m_123) rfl rfl rfl (by decide +kernel) ⟨Nat.le_of_ble_eq_true rfl, Nat.le_of_ble_eq_true rfl⟩) ⟨fun a U g mk q => ⟨q.1, q.2.same⟩, va_recv hK hP (ci := 0) rfl hk1, fun U hU hw => ⟨rfl, GW.of hP hD hK hC hN hA hS hU hw⟩⟩ rfl rfl hl.1 rfl (lv_room (Nat.le_of_ble_eq_true rfl)) dJx4a65c_add_9ea2d_20 ⟨by show 0 + cn ≤ 1; omega, by show 0 + N ≤ 1240; omega⟩) hS (fun q _ h => h) (fun _ h => h) ?_
  intro a t H1 locs1 ht1 hvm _ hB _ _ hS
  refine lv_iconst (v := 1) S.1 S.2.1 dJx4a65c_add_9ea2d_23 (by decide) ?_
  refine W.widen (k := 1) (n := 1240) (by omega) (by omega) ?_
  exact W.zret S.1 S.2.1 hr rfl (fun t2 ht2 hw => by
    obtain ⟨u, hp, hg⟩ := hcv a t2 (GW.of (by rw [← ht1]; exact hB.1) hB.2.1 hK hC hN hA hS ht2 hw)
    exact ⟨⟨1, u, rfl, ⟨rfl, hp⟩, hg⟩, hS.F ht2⟩) hS.2.2 dJx4a65c_add_9ea2d_24 hlk
def Grown (ws ws' : va_W) (q da : Nat) (e : va_E) (da' : Nat) (d : va_E) (n : Nat) : Prop := (∀ y ∈ ws, y.1 ≠ q → y.1 ≠ da → y ∈ ws') ∧ (q, e) ∈ ws' ∧ (da', d) ∈ ws' ∧ ((da' = da ∧ 0 < n) ∨ ∀ y ∈ ws, y.1 ≠ da')
theorem mem_set' {ws : va_W} {k0 q : Nat} {e e' : va_E} (hk : ws[k0]? = some (q, e)) {y : Nat × va_E} (hy : y ∈ ws) (hn : y.1 ≠ q) : y ∈ ws.set k0 (q, e') := by
  obtain ⟨k, h⟩ := List.mem_iff_getElem?.mp hy
  have hne : k0 ≠ k := fun e1 => hn (by rw [e1, h] at hk; rw [Option.some.inj hk])
  exact List.mem_iff_getElem?.mpr ⟨k, (List.getElem?_set_ne hne).trans h⟩
theorem mem_set_self' {ws : va_W} {k0 : Nat} {x y : Nat × va_E} (hk : ws[k0]? = some x) : y ∈ ws.set k0 y := List.mem_iff_getElem?.mpr ⟨k0, List.getElem?_set_self (List.getElem?_eq_some_iff.mp hk).1⟩
theorem set_addr {ws : va_W} {k0 q : Nat} {e e' : va_E} (hk : ws[k0]? = some (q, e)) : (ws.set k0 (q, e')).map (fun y => y.1) = ws.map (fun y => y.1) := by
  rw [List.map_set]
  apply List.ext_getElem?
  intro j
  by_cases h : k0 = j
  · subst h
    have := (List.getElem?_eq_some_iff.mp hk).1
    rw [List.getElem?_set_self (by simpa using this), List.getElem?_map, hk]; rfl
  · rw [List.getElem?_set_ne h]
theorem va_D.fresh {A : Nat → Prop} {ws : va_W} {a : Nat} {e : va_E} (h : va_D A (ws ++ [(a, e)])) : ∀ y ∈ ws, y.1 ≠ a := by
  intro y hy he
  obtain ⟨k, hk⟩ := List.mem_iff_getElem?.mp hy
  have h1 := h.1 k ws.length y (a, e) (app_atL hk) (at_last _ _) he
  have := (List.getElem?_eq_some_iff.mp hk).1
  omega
theorem mem_addr {ws ws' : va_W} (h : ws'.map (fun y => y.1) = ws.map (fun y => y.1)) {a : Nat} (hf : ∀ y ∈ ws', y.1 ≠ a) : ∀ y ∈ ws, y.1 ≠ a := by
  intro y hy he
  have h1 : a ∈ ws.map (fun y => y.1) := List.mem_map.mpr ⟨y, hy, he⟩
  rw [← h] at h1
  obtain ⟨z, hz, h2⟩ := List.mem_map.mp h1
  exact hf z hz h2
theorem cap_step : ∀ n, n ≤ 1000 → capOf n ≤ 1234 ∧ n ≤ capOf n ∧ (0 < n → n < capOf n → capOf (n + 1) = capOf n) ∧ (0 < n → n = capOf n → ncap n = capOf (n + 1)) := by
  intro n hn
  have h := (by decide +kernel : ∀ i : Fin 1001, capOf i.val ≤ 1234 ∧ i.val ≤ capOf i.val ∧ (0 < i.val → i.val < capOf i.val → capOf (i.val + 1) = capOf i.val) ∧ (0 < i.val → i.val = capOf i.val → ncap i.val = capOf (i.val + 1)))
  exact h ⟨n, by omega⟩
theorem Elm.set {ws : va_W} {k0 q y : Nat} {e e' : va_E} (hk : ws[k0]? = some (q, e)) (h : Elm ws y) (hn : y ≠ q) : Elm (ws.set k0 (q, e')) y := by
  obtain ⟨kq, ci, fs, r, h1, h2, h3⟩ := h
  have hne : k0 ≠ kq := fun e1 => hn (by rw [e1, h1] at hk; exact (congrArg (fun z => z.1) (Option.some.inj hk)))
  exact ⟨kq, ci, fs, r, (List.getElem?_set_ne hne).trans h1, h2, h3⟩
set_option maxRecDepth 100000 in
set_option maxHeartbeats 4000000 in
theorem cG_addU (l : Launch) (D : va_G) (tys : List (ClassId × FieldType)) (A : Nat → Prop) (kk : Nat → Nat) (ws : va_W) {k0 kx t0 q x da n ci : Nat} {mc : Int32} {cO : ClassId} {row : Nat → Option Nat} {vs : List Value} {r : vw_C} (hk : ws[k0]? = some (q, .inr (0, [.int mc, .ref da, .int (nI n)]))) (hx : ws[kx]? = some (x, .inr (ci, vs))) (hxq : x ≠ q) (hci : vwCl[ci]? = some r) (hca : Cond.castable r.1 "java/lang/Object" ∈ nwl) (ht : tys[t0]? = some (cO, .object "java/lang/Object")) (hn : n ≤ 900)
    (hdat : (n = 0 ∧ da = kk 41) ∨ (0 < n ∧ da ≠ q ∧ ∃ kd : Nat, ws[kd]? = some (da, .inl (cO, capOf n, .inr (.inr (.inr (.inr row))))))) (hel : ∀ i, i < n → ∀ y, row i = some y → Elm ws y ∧ y ≠ q) :
    Met l yJx4a65c_add_9ea2d (Cond.code yJx4a65c_add_9ea2d cJx4a65c_add_9ea2d 2 (some .boolean) :: wsL) { frames := 6, cells := 1, slots := 1240, locals := 170 } (va_Pc [.ref q, .ref x] (GW D tys A kk ws)) (va_Qi (fun r (u : va_W × Nat × (Nat → Option Nat)) => r = 1 ∧ Grown ws u.1 q da (.inr (0, [.int (mc + 1), .ref u.2.1, .int (nI (n + 1))])) u.2.1 (.inl (cO, capOf (n + 1), .inr (.inr (.inr (.inr u.2.2))))) n ∧ (∀ i, i < n → u.2.2 i = row i) ∧ u.2.2 n = some x) (fun u t => GW D tys A kk u.1 t) A) 1 1240 A := by
  obtain ⟨hc1, hc2, hc3, hc4⟩ := cap_step n (by omega)
  have hk1 : (ws.set k0 (q, .inr (0, [.int (mc + 1), .ref da, .int (nI n)])))[k0]? = some (q, .inr (0, [.int (mc + 1), .ref da, .int (nI n)])) := List.getElem?_set_self (List.getElem?_eq_some_iff.mp hk).1
  have hkx : k0 ≠ kx := fun e1 => hxq (by rw [e1, hx] at hk; exact (congrArg (fun z => z.1) (Option.some.inj hk)))
  have hx1 : (ws.set k0 (q, .inr (0, [.int (mc + 1), .ref da, .int (nI n)])))[kx]? = some (x, .inr (ci, vs)) := (List.getElem?_set_ne hkx).trans hx
  have had : ∀ e' : va_E, ((ws.set k0 (q, .inr (0, [.int (mc + 1), .ref da, .int (nI n)]))).set k0 (q, e')).map (fun y => y.1) = ws.map (fun y => y.1) := fun e' => by rw [List.set_set]; exact set_addr hk
  -- a list that grows
  have grown : ∀ (N : Nat) (row2 : Nat → Option Nat), n < N → N ≤ 1234 → N = capOf (n + 1) → (∀ i, i < n → row2 i = row i) →
      ((∃ (row0 : Nat → Option Nat) (kd t1 : Nat), (ws.set k0 (q, .inr (0, [.int (mc + 1), .ref da, .int (nI n)])))[kd]? = some (da, .inl (cO, n, .inr (.inr (.inr (.inr row0))))) ∧ tys[t1]? = some (cO, .object "java/lang/Object")) ∨ (da = kk 41 ∧ n = 0)) →
      Mr l yJx4a65c_grow_92f84 cJx4a65c_grow_92f84 4 (.array (.object "java/lang/Object")) { frames := 3, cells := 1, slots := N, locals := 104 } [.ref q, .int (nI (n + 1))] (GW D tys A kk (ws.set k0 (q, .inr (0, [.int (mc + 1), .ref da, .int (nI n)])))) (fun a t => GW D tys A kk ((ws.set k0 (q, .inr (0, [.int (mc + 1), .ref da, .int (nI n)]))).set k0 (q, .inr (0, [.int (mc + 1), .ref a, .int (nI n)])) ++ [(a, .inl (cO, N, .inr (.inr (.inr (.inr row2)))))]) t) A →
      Met l yJx4a65c_add_9ea2d (Cond.code yJx4a65c_add_9ea2d cJx4a65c_add_9ea2d 2 (some .boolean) :: wsL) { frames := 6, cells := 1, slots := 1240, locals := 170 } (va_Pc [.ref q, .ref x] (GW D tys A kk ws)) (va_Qi (fun r (u : va_W × Nat × (Nat → Option Nat)) => r = 1 ∧ Grown ws u.1 q da (.inr (0, [.int (mc + 1), .ref u.2.1, .int (nI (n + 1))])) u.2.1 (.inl (cO, capOf (n + 1), .inr (.inr (.inr (.inr u.2.2))))) n ∧ (∀ i, i < n → u.2.2 i = row i) ∧ u.2.2 n = some x) (fun u t => GW D tys A kk u.1 t) A) 1 1240 A := by
    intro N row2 hnN hN hNc hr2 hlen hM
    refine cG_add1U (cn := 1) (N := N) l D tys A kk ws (Nat.le_refl 1) (by omega) ?_ hk (cG_add3G l D tys A kk _ hk1 hx1 (Ne.symm hkx) hci hca ht hnN (by omega) hlen (cG_grow0 l D tys A kk _ hk1 hM (fun a t h => ⟨_, h, fun t' h' => h'⟩)))
    intro a t hG
    refine ⟨(_, a, va_up row2 n (some x)), ⟨⟨fun y hy h1 h2 => ?_, ?_, ?_, Or.inr (mem_addr (had _) hG.2.1.fresh)⟩, fun i hi => ?_, va_up_self _ _ _⟩, hG⟩
    · rw [List.set_set]; exact List.mem_append_left _ (mem_set' hk hy h1)
    · rw [List.set_set]; exact List.mem_append_left _ (mem_set_self' hk)
    · rw [← hNc]; exact List.mem_append_right _ List.mem_cons_self
    · show va_up row2 n (some x) i = row i
      rw [va_up_ne _ _ (by omega : i ≠ n)]; exact hr2 i hi
  rcases hdat with ⟨rfl, rfl⟩ | ⟨h0, hdq, kd, hd⟩
  · exact grown 10 (fun _ => none) (by decide) (by decide) (by decide) (fun i hi => by omega) (Or.inr ⟨rfl, rfl⟩) (cG_growE l D tys A kk _ hk1 ht)
  · have hkd : k0 ≠ kd := fun e1 => hdq (by rw [e1, hd] at hk; exact (congrArg (fun z => z.1) (Option.some.inj hk)))
    have hd1 : (ws.set k0 (q, .inr (0, [.int (mc + 1), .ref da, .int (nI n)])))[kd]? = some (da, .inl (cO, capOf n, .inr (.inr (.inr (.inr row))))) := (List.getElem?_set_ne hkd).trans hd
    rcases Nat.lt_or_ge n (capOf n) with hlt | hge
    · refine cG_add1U (cn := 0) (N := 0) l D tys A kk ws (by omega) (by omega) ?_ hk (cG_add3N l D tys A kk _ hk1 hd1 hx1 hci hca ht hlt (by omega))
      intro a t hG
      have hd2 := hd1
      refine ⟨(_, da, va_up row n (some x)), ⟨⟨fun y hy h1 h2 => ?_, ?_, ?_, Or.inl ⟨rfl, h0⟩⟩, fun i hi => va_up_ne _ _ (by omega : i ≠ n), va_up_self _ _ _⟩, hG⟩
      · have e1 := mem_set' (e' := .inl (cO, capOf n, .inr (.inr (.inr (.inr (va_up row n (some x))))))) hd1 (mem_set' (e' := .inr (0, [.int (mc + 1), .ref da, .int (nI n)])) hk hy h1) h2
        exact mem_set' (by rw [List.getElem?_set_ne (Ne.symm hkd)]; exact hk1) e1 h1
      · exact mem_set_self' (by rw [List.getElem?_set_ne (Ne.symm hkd)]; exact hk1)
      · rw [hc3 h0 hlt]
        exact mem_set' (by rw [List.getElem?_set_ne (Ne.symm hkd)]; exact hk1) (mem_set_self' hd1) hdq
    · have hnc : n = capOf n := by omega
      rw [← hnc] at hd1
      have hN := (cap_step (n + 1) (by omega)).1
      refine grown (ncap n) (va_cpy row (fun _ => none) 0 0 n) ?_ (by rw [hc4 h0 hnc]; exact hN) (hc4 h0 hnc) (fun i hi => ?_) (Or.inl ⟨row, kd, t0, hd1, ht⟩) (cG_growO l D tys A kk _ hk1 hd1 ht h0 (by omega) (fun i hi y hy => Elm.set hk (hel i hi y hy).1 (hel i hi y hy).2))
      · unfold ncap; split <;> omega
      · simp [va_cpy, hi]
/-! worlds by their addresses -/
def adr (ws : va_W) : List Nat := ws.map (fun y => y.1)
theorem adr_app (a b : va_W) : adr (a ++ b) = adr a ++ adr b := List.map_append
theorem adr_cons (x : Nat × va_E) (b : va_W) : adr (x :: b) = x.1 :: adr b := rfl
theorem adr_nil : adr [] = [] := rfl
theorem va_D.cnt {A : Nat → Prop} {ws : va_W} (h : va_D A ws) (a : Nat) : (adr ws).count a ≤ 1 := by
  have hn : (adr ws).Nodup := by
    rw [List.nodup_iff_pairwise_ne, List.pairwise_iff_getElem]
    intro i j hi hj hij he
    have hi' : i < ws.length := by simpa [adr] using hi
    have hj' : j < ws.length := by simpa [adr] using hj
    have := h.1 i j ws[i] ws[j] (List.getElem?_eq_getElem hi') (List.getElem?_eq_getElem hj') (by simpa [adr] using he)
    omega
  exact (List.nodup_iff_count.mp hn) a
theorem va_D.mem {A : Nat → Prop} {ws : va_W} (h : va_D A ws) {y : Nat × va_E} (hy : y ∈ ws) : A y.1 := by
  obtain ⟨k, hk⟩ := List.mem_iff_getElem?.mp hy
  exact h.2 k y hk
theorem va_D.of {A : Nat → Prop} {ws : va_W} (h : ∀ a, (adr ws).count a ≤ 1) (hA : ∀ y ∈ ws, A y.1) : va_D A ws := by
  have hn := List.nodup_iff_count.mpr h
  rw [List.nodup_iff_pairwise_ne, List.pairwise_iff_getElem] at hn
  refine ⟨fun i j p q hi hj he => ?_, fun k q hk => hA q (List.mem_of_getElem? hk)⟩
  obtain ⟨hi1, hi2⟩ := List.getElem?_eq_some_iff.mp hi
  obtain ⟨hj1, hj2⟩ := List.getElem?_eq_some_iff.mp hj
  have hi' : i < (adr ws).length := by simpa [adr] using hi1
  have hj' : j < (adr ws).length := by simpa [adr] using hj1
  rcases Nat.lt_trichotomy i j with h1 | h1 | h1
  · exact absurd (by simp [adr, hi2, hj2, he]) (hn i j hi' hj' h1)
  · exact h1
  · exact absurd (by simp [adr, hi2, hj2, he]) (hn j i hj' hi' h1)
theorem va_P.mem {D : va_G} {cl : List vw_C} {ws : va_W} {H : Heap} (h : va_P D cl ws H) {y : Nat × va_E} (hy : y ∈ ws) : va_at D cl y H := by
  obtain ⟨k, hk⟩ := List.mem_iff_getElem?.mp hy
  exact h k y hk
theorem va_P.of {D : va_G} {cl : List vw_C} {ws : va_W} {H : Heap} (h : ∀ y ∈ ws, va_at D cl y H) : va_P D cl ws H := fun _ y hk => h y (List.mem_of_getElem? hk)
theorem adr_mem {ws : va_W} {y : Nat × va_E} (hy : y ∈ ws) : 0 < (adr ws).count y.1 := List.count_pos_iff.mpr (List.mem_map.mpr ⟨y, hy, rfl⟩)
theorem cnt_one (a b : Nat) : [b].count a = if b = a then 1 else 0 := by
  rw [List.count_cons, List.count_nil]
  by_cases h : b = a <;> simp [h]
theorem KC.empty {A : Nat → Prop} {kk : Nat → Nat} {U : State} (h : KC A kk U) : ¬ A (kk 41) := by
  obtain ⟨cell, h⟩ := h.2.2.2.2.2.2.1
  exact h.2.2.2.2.2.2
theorem grow_conv {D : va_G} {A : Nat → Prop} {H : Heap} {ws1 ws2 K T : va_W} {q0 da da' n : Nat} {e d : va_E} {dold : List Nat} (hD1 : va_D A ws1) (hP2 : va_P D vwCl ws2 H) (hD2 : va_D A ws2) (hG : Grown ws1 ws2 q0 da e da' d n)
    (hadr : ∀ a, (adr K).count a + [q0].count a + dold.count a = (adr ws1).count a) (hK : ∀ y ∈ K, y ∈ ws1) (hdo : (dold = [] ∧ ¬ A da ∧ n = 0) ∨ dold = [da])
    (hT : ∀ y ∈ T, y ∈ K ∨ y = (q0, e) ∨ y = (da', d)) (hTa : ∀ a, (adr T).count a = (adr K).count a + [q0].count a + [da'].count a) : va_P D vwCl T H ∧ va_D A T := by
  have key : ∀ y ∈ T, y ∈ ws2 := by
    intro y hy
    rcases hT y hy with h | rfl | rfl
    · have h1 := hadr y.1
      have h2 := hD1.cnt y.1
      have h3 := adr_mem h
      refine hG.1 y (hK y h) (fun e1 => ?_) (fun e1 => ?_)
      · rw [cnt_one, if_pos e1.symm] at h1; omega
      · rcases hdo with ⟨-, h4, -⟩ | h4
        · exact h4 (e1 ▸ hD1.mem (hK y h))
        · rw [h4, cnt_one y.1 da, if_pos e1.symm] at h1; omega
    · exact hG.2.1
    · exact hG.2.2.1
  refine ⟨va_P.of (fun y hy => hP2.mem (key y hy)), va_D.of (fun a => ?_) (fun y hy => hD2.mem (key y hy))⟩
  have h1 := hadr a
  have h2 := hD1.cnt a
  rw [hTa]
  rcases hG.2.2.2 with ⟨rfl, hn⟩ | hf
  · rcases hdo with ⟨-, -, h4⟩ | h4
    · omega
    · rw [h4] at h1; omega
  · rw [cnt_one a da']
    by_cases h : da' = a
    · have h3 : (adr ws1).count a = 0 := List.count_eq_zero.mpr (fun hm => by
        obtain ⟨z, hz, h5⟩ := List.mem_map.mp hm
        exact hf z hz (h5.trans h.symm))
      rw [if_pos h]; omega
    · rw [if_neg h]; omega
