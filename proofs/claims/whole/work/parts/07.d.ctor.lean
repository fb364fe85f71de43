theorem set_at {α : Type} {ws : List α} {k : Nat} {x y : α} (h : ws[k]? = some x) : (ws.set k y)[k]? = some y := List.getElem?_set_self (List.getElem?_eq_some_iff.mp h).1
set_option maxRecDepth 100000 in
set_option maxHeartbeats 4000000 in
theorem cG_initE (l : Launch) (D : va_G) (tys : List (ClassId × FieldType)) (A : Nat → Prop) (kk : Nat → Nat) (ws : va_W) {k : Nat} {q : Nat} {a1 : Nat} {a2 : Int32} {a3 : Int32} {a4 : Int64} (hk : ws[k]? = some (q, .inr (4, [.null, .int 0, .int 0, .long 0, .int 0]))) : Mv l yX3_init cX3_init 6 { frames := 1, cells := 0, slots := 0, locals := 20 } [.ref q, .ref a1, .int a2, .int a3, .long a4] (GW D tys A kk ws) (GW D tys A kk (ws.set k (q, .inr (4, [.ref a1, .int a2, .int a3, .long a4, .int (-1)])))) A := by
  refine Mv.of (own := RX3) rfl (by decide +kernel) (Nat.le_of_ble_eq_true rfl) ?_
  intro p e s m args below meth c ls S hr hlk hG hl hnm
  obtain ⟨hP, hD, hK, hC, hN, hA⟩ := hG
  have hS : va_S A s.heap s.heap [] := va_S.rf
  have hk0 := hk
  have hl : lv_has ls 6 [(0, .ref q), (1, .ref a1), (2, .int a2), (3, .int a3), (4, .long a4)] := hl
  refine lv_aload_n S.1 S.2.1 dX3_init_0 rfl (lv_at hl 0 rfl) ?_
  refine W.objInit S.1 S.2.1 S.2.2.2.1 (S.2.2.2.2 _ m_552) (S.2.2.2.2 _ m_11) (S.2.2.2.2 _ m_12) rfl (hl.1.trans S.2.2.1.symm) rfl dX3_init_1 (Nat.le_of_ble_eq_true rfl) (Nat.le_of_ble_eq_true rfl) ?_
  refine lv_aload_n S.1 S.2.1 dX3_init_4 rfl (lv_at hl 0 rfl) ?_
  refine lv_aload_n S.1 S.2.1 dX3_init_5 rfl (lv_at hl 1 rfl) ?_
  refine va_putF (D := D) (ci := 4) (v := .ref a1) (ty := (.object "BookClub$Member")) (C := RX3) (T := TX3) (N := 5) S.1 S.2.1 S.2.2.2.2 inX3 tyX3 tyX3_ok nmX3 S.2.2.2.1 hK hP hD hS k hk rfl 0 (by decide) (S.2.2.2.2 _ m_553) (fun _ h => h) rfl hnm rfl (by decide +kernel) rfl rfl (Nat.le_of_ble_eq_true rfl) dX3_init_6 (fun H locs hP hD hS => ?_)
  have hk : (ws.set k (q, .inr (4, [.ref a1, .int 0, .int 0, .long 0, .int 0])))[k]? = some (q, .inr (4, [.ref a1, .int 0, .int 0, .long 0, .int 0])) := set_at hk0
  have hP : va_P D vwCl (ws.set k (q, .inr (4, [.ref a1, .int 0, .int 0, .long 0, .int 0]))) H := hP
  have hD : va_D A (ws.set k (q, .inr (4, [.ref a1, .int 0, .int 0, .long 0, .int 0]))) := hD
  refine lv_aload_n S.1 S.2.1 dX3_init_9 rfl (lv_at hl 0 rfl) ?_
  refine lv_iload_n S.1 S.2.1 dX3_init_10 rfl (lv_at hl 2 rfl) ?_
  refine va_putF (D := D) (ci := 4) (v := .int a2) (ty := .int) (C := RX3) (T := TX3) (N := 5) S.1 S.2.1 S.2.2.2.2 inX3 tyX3 tyX3_ok nmX3 S.2.2.2.1 hK hP hD hS k hk rfl 1 (by decide) (S.2.2.2.2 _ m_554) (fun _ h => h) rfl hnm rfl (by decide +kernel) rfl rfl (Nat.le_of_ble_eq_true rfl) dX3_init_11 (fun H locs hP hD hS => ?_)
  have hk : (ws.set k (q, .inr (4, [.ref a1, .int a2, .int 0, .long 0, .int 0])))[k]? = some (q, .inr (4, [.ref a1, .int a2, .int 0, .long 0, .int 0])) := set_at hk0
  have hP : va_P D vwCl (ws.set k (q, .inr (4, [.ref a1, .int a2, .int 0, .long 0, .int 0]))) H := (List.set_set (l := ws) .. ▸ hP)
  have hD : va_D A (ws.set k (q, .inr (4, [.ref a1, .int a2, .int 0, .long 0, .int 0]))) := (List.set_set (l := ws) .. ▸ hD)
  refine lv_aload_n S.1 S.2.1 dX3_init_14 rfl (lv_at hl 0 rfl) ?_
  refine lv_iload_n S.1 S.2.1 dX3_init_15 rfl (lv_at hl 3 rfl) ?_
  refine va_putF (D := D) (ci := 4) (v := .int a3) (ty := .int) (C := RX3) (T := TX3) (N := 5) S.1 S.2.1 S.2.2.2.2 inX3 tyX3 tyX3_ok nmX3 S.2.2.2.1 hK hP hD hS k hk rfl 2 (by decide) (S.2.2.2.2 _ m_555) (fun _ h => h) rfl hnm rfl (by decide +kernel) rfl rfl (Nat.le_of_ble_eq_true rfl) dX3_init_16 (fun H locs hP hD hS => ?_)
  have hk : (ws.set k (q, .inr (4, [.ref a1, .int a2, .int a3, .long 0, .int 0])))[k]? = some (q, .inr (4, [.ref a1, .int a2, .int a3, .long 0, .int 0])) := set_at hk0
  have hP : va_P D vwCl (ws.set k (q, .inr (4, [.ref a1, .int a2, .int a3, .long 0, .int 0]))) H := (List.set_set (l := ws) .. ▸ hP)
  have hD : va_D A (ws.set k (q, .inr (4, [.ref a1, .int a2, .int a3, .long 0, .int 0]))) := (List.set_set (l := ws) .. ▸ hD)
  refine lv_aload_n S.1 S.2.1 dX3_init_19 rfl (lv_at hl 0 rfl) ?_
  refine lv_lload S.1 S.2.1 dX3_init_20 (lv_at hl 4 rfl) ?_
  refine va_putF (D := D) (ci := 4) (v := .long a4) (ty := .long) (C := RX3) (T := TX3) (N := 5) S.1 S.2.1 S.2.2.2.2 inX3 tyX3 tyX3_ok nmX3 S.2.2.2.1 hK hP hD hS k hk rfl 3 (by decide) (S.2.2.2.2 _ m_556) (fun _ h => h) rfl hnm rfl (by decide +kernel) rfl rfl (Nat.le_of_ble_eq_true rfl) dX3_init_22 (fun H locs hP hD hS => ?_)
  have hk : (ws.set k (q, .inr (4, [.ref a1, .int a2, .int a3, .long a4, .int 0])))[k]? = some (q, .inr (4, [.ref a1, .int a2, .int a3, .long a4, .int 0])) := set_at hk0
  have hP : va_P D vwCl (ws.set k (q, .inr (4, [.ref a1, .int a2, .int a3, .long a4, .int 0]))) H := (List.set_set (l := ws) .. ▸ hP)
  have hD : va_D A (ws.set k (q, .inr (4, [.ref a1, .int a2, .int a3, .long a4, .int 0]))) := (List.set_set (l := ws) .. ▸ hD)
  refine lv_aload_n S.1 S.2.1 dX3_init_25 rfl (lv_at hl 0 rfl) ?_
  refine lv_iconst (v := (-1 : Int32)) S.1 S.2.1 dX3_init_26 (by decide) ?_
  refine va_put (D := D) (ci := 4) (v := .int (-1)) (ty := .int) (C := RX3) (T := TX3) (N := 5) S.1 S.2.1 S.2.2.2.2 inX3 tyX3 tyX3_ok nmX3 S.2.2.2.1 hK hP hD hS k hk rfl 4 (by decide) (S.2.2.2.2 _ m_557) (fun _ h => h) rfl (by decide +kernel) rfl rfl (Nat.le_of_ble_eq_true rfl) dX3_init_27 (fun H locs hP hD hS => ?_)
  have hk : (ws.set k (q, .inr (4, [.ref a1, .int a2, .int a3, .long a4, .int (-1)])))[k]? = some (q, .inr (4, [.ref a1, .int a2, .int a3, .long a4, .int (-1)])) := set_at hk0
  have hP : va_P D vwCl (ws.set k (q, .inr (4, [.ref a1, .int a2, .int a3, .long a4, .int (-1)]))) H := (List.set_set (l := ws) .. ▸ hP)
  have hD : va_D A (ws.set k (q, .inr (4, [.ref a1, .int a2, .int a3, .long a4, .int (-1)]))) := (List.set_set (l := ws) .. ▸ hD)
  exact W.vret S.1 S.2.1 hr (fun t ht hw => ⟨⟨(), rfl, trivial, GW.of hP hD hK hC hN hA hS ht hw⟩, hS.F ht⟩) hS.2.2 dX3_init_30 hlk
set_option maxRecDepth 100000 in
set_option maxHeartbeats 4000000 in
theorem cG_initM (l : Launch) (D : va_G) (tys : List (ClassId × FieldType)) (A : Nat → Prop) (kk : Nat → Nat) (ws : va_W) {k : Nat} {q : Nat} {a1 : Int32} {a2 : Int32} {a3 : Int32} (hk : ws[k]? = some (q, .inr (7, [.int 0, .int 0, .int 0, .int 0, .int 0, .int 0, .long 0, .int 0, .int 0, .int 0, .int 0]))) : Mv l yX6_init cX6_init 4 { frames := 1, cells := 0, slots := 0, locals := 20 } [.ref q, .int a1, .int a2, .int a3] (GW D tys A kk ws) (GW D tys A kk (ws.set k (q, .inr (7, [.int a1, .int a2, .int a3, .int (0), .int 0, .int 0, .long 0, .int 0, .int 0, .int 0, .int 0])))) A := by
  refine Mv.of (own := RX6) rfl (by decide +kernel) (Nat.le_of_ble_eq_true rfl) ?_
  intro p e s m args below meth c ls S hr hlk hG hl hnm
  obtain ⟨hP, hD, hK, hC, hN, hA⟩ := hG
  have hS : va_S A s.heap s.heap [] := va_S.rf
  have hk0 := hk
  have hl : lv_has ls 4 [(0, .ref q), (1, .int a1), (2, .int a2), (3, .int a3)] := hl
  refine lv_aload_n S.1 S.2.1 dX6_init_0 rfl (lv_at hl 0 rfl) ?_
  refine W.objInit S.1 S.2.1 S.2.2.2.1 (S.2.2.2.2 _ m_533) (S.2.2.2.2 _ m_11) (S.2.2.2.2 _ m_12) rfl (hl.1.trans S.2.2.1.symm) rfl dX6_init_1 (Nat.le_of_ble_eq_true rfl) (Nat.le_of_ble_eq_true rfl) ?_
  refine lv_aload_n S.1 S.2.1 dX6_init_4 rfl (lv_at hl 0 rfl) ?_
  refine lv_iload_n S.1 S.2.1 dX6_init_5 rfl (lv_at hl 1 rfl) ?_
  refine va_putF (D := D) (ci := 7) (v := .int a1) (ty := .int) (C := RX6) (T := TX6) (N := 11) S.1 S.2.1 S.2.2.2.2 inX6 tyX6 tyX6_ok nmX6 S.2.2.2.1 hK hP hD hS k hk rfl 0 (by decide) (S.2.2.2.2 _ m_534) (fun _ h => h) rfl hnm rfl (by decide +kernel) rfl rfl (Nat.le_of_ble_eq_true rfl) dX6_init_6 (fun H locs hP hD hS => ?_)
  have hk : (ws.set k (q, .inr (7, [.int a1, .int 0, .int 0, .int 0, .int 0, .int 0, .long 0, .int 0, .int 0, .int 0, .int 0])))[k]? = some (q, .inr (7, [.int a1, .int 0, .int 0, .int 0, .int 0, .int 0, .long 0, .int 0, .int 0, .int 0, .int 0])) := set_at hk0
  have hP : va_P D vwCl (ws.set k (q, .inr (7, [.int a1, .int 0, .int 0, .int 0, .int 0, .int 0, .long 0, .int 0, .int 0, .int 0, .int 0]))) H := hP
  have hD : va_D A (ws.set k (q, .inr (7, [.int a1, .int 0, .int 0, .int 0, .int 0, .int 0, .long 0, .int 0, .int 0, .int 0, .int 0]))) := hD
  refine lv_aload_n S.1 S.2.1 dX6_init_9 rfl (lv_at hl 0 rfl) ?_
  refine lv_iload_n S.1 S.2.1 dX6_init_10 rfl (lv_at hl 2 rfl) ?_
  refine va_putF (D := D) (ci := 7) (v := .int a2) (ty := .int) (C := RX6) (T := TX6) (N := 11) S.1 S.2.1 S.2.2.2.2 inX6 tyX6 tyX6_ok nmX6 S.2.2.2.1 hK hP hD hS k hk rfl 1 (by decide) (S.2.2.2.2 _ m_535) (fun _ h => h) rfl hnm rfl (by decide +kernel) rfl rfl (Nat.le_of_ble_eq_true rfl) dX6_init_11 (fun H locs hP hD hS => ?_)
  have hk : (ws.set k (q, .inr (7, [.int a1, .int a2, .int 0, .int 0, .int 0, .int 0, .long 0, .int 0, .int 0, .int 0, .int 0])))[k]? = some (q, .inr (7, [.int a1, .int a2, .int 0, .int 0, .int 0, .int 0, .long 0, .int 0, .int 0, .int 0, .int 0])) := set_at hk0
  have hP : va_P D vwCl (ws.set k (q, .inr (7, [.int a1, .int a2, .int 0, .int 0, .int 0, .int 0, .long 0, .int 0, .int 0, .int 0, .int 0]))) H := (List.set_set (l := ws) .. ▸ hP)
  have hD : va_D A (ws.set k (q, .inr (7, [.int a1, .int a2, .int 0, .int 0, .int 0, .int 0, .long 0, .int 0, .int 0, .int 0, .int 0]))) := (List.set_set (l := ws) .. ▸ hD)
  refine lv_aload_n S.1 S.2.1 dX6_init_14 rfl (lv_at hl 0 rfl) ?_
  refine lv_iload_n S.1 S.2.1 dX6_init_15 rfl (lv_at hl 3 rfl) ?_
  refine va_put (D := D) (ci := 7) (v := .int a3) (ty := .int) (C := RX6) (T := TX6) (N := 11) S.1 S.2.1 S.2.2.2.2 inX6 tyX6 tyX6_ok nmX6 S.2.2.2.1 hK hP hD hS k hk rfl 2 (by decide) (S.2.2.2.2 _ m_536) (fun _ h => h) rfl (by decide +kernel) rfl rfl (Nat.le_of_ble_eq_true rfl) dX6_init_16 (fun H locs hP hD hS => ?_)
  have hk : (ws.set k (q, .inr (7, [.int a1, .int a2, .int a3, .int 0, .int 0, .int 0, .long 0, .int 0, .int 0, .int 0, .int 0])))[k]? = some (q, .inr (7, [.int a1, .int a2, .int a3, .int 0, .int 0, .int 0, .long 0, .int 0, .int 0, .int 0, .int 0])) := set_at hk0
  have hP : va_P D vwCl (ws.set k (q, .inr (7, [.int a1, .int a2, .int a3, .int 0, .int 0, .int 0, .long 0, .int 0, .int 0, .int 0, .int 0]))) H := (List.set_set (l := ws) .. ▸ hP)
  have hD : va_D A (ws.set k (q, .inr (7, [.int a1, .int a2, .int a3, .int 0, .int 0, .int 0, .long 0, .int 0, .int 0, .int 0, .int 0]))) := (List.set_set (l := ws) .. ▸ hD)
  refine lv_aload_n S.1 S.2.1 dX6_init_19 rfl (lv_at hl 0 rfl) ?_
  refine lv_iconst (v := (0 : Int32)) S.1 S.2.1 dX6_init_20 (by decide) ?_
  refine va_put (D := D) (ci := 7) (v := .int (0)) (ty := .int) (C := RX6) (T := TX6) (N := 11) S.1 S.2.1 S.2.2.2.2 inX6 tyX6 tyX6_ok nmX6 S.2.2.2.1 hK hP hD hS k hk rfl 3 (by decide) (S.2.2.2.2 _ m_537) (fun _ h => h) rfl (by decide +kernel) rfl rfl (Nat.le_of_ble_eq_true rfl) dX6_init_21 (fun H locs hP hD hS => ?_)
  have hk : (ws.set k (q, .inr (7, [.int a1, .int a2, .int a3, .int (0), .int 0, .int 0, .long 0, .int 0, .int 0, .int 0, .int 0])))[k]? = some (q, .inr (7, [.int a1, .int a2, .int a3, .int (0), .int 0, .int 0, .long 0, .int 0, .int 0, .int 0, .int 0])) := set_at hk0
  have hP : va_P D vwCl (ws.set k (q, .inr (7, [.int a1, .int a2, .int a3, .int (0), .int 0, .int 0, .long 0, .int 0, .int 0, .int 0, .int 0]))) H := (List.set_set (l := ws) .. ▸ hP)
  have hD : va_D A (ws.set k (q, .inr (7, [.int a1, .int a2, .int a3, .int (0), .int 0, .int 0, .long 0, .int 0, .int 0, .int 0, .int 0]))) := (List.set_set (l := ws) .. ▸ hD)
  exact W.vret S.1 S.2.1 hr (fun t ht hw => ⟨⟨(), rfl, trivial, GW.of hP hD hK hC hN hA hS ht hw⟩, hS.F ht⟩) hS.2.2 dX6_init_24 hlk
set_option maxRecDepth 100000 in
set_option maxHeartbeats 4000000 in
theorem cG_initC (l : Launch) (D : va_G) (tys : List (ClassId × FieldType)) (A : Nat → Prop) (kk : Nat → Nat) (ws : va_W) {k : Nat} {q : Nat} (hk : ws[k]? = some (q, .inr (2, [.int 0, .int 0, .int 0, .int 0, .int 0, .int 0, .int 0, .int 0]))) : Mv l yX1_init cX1_init 1 { frames := 1, cells := 0, slots := 0, locals := 20 } [.ref q] (GW D tys A kk ws) (GW D tys A kk (ws)) A := by
  refine Mv.of (own := RX1) rfl (by decide +kernel) (Nat.le_of_ble_eq_true rfl) ?_
  intro p e s m args below meth c ls S hr hlk hG hl hnm
  obtain ⟨hP, hD, hK, hC, hN, hA⟩ := hG
  have hS : va_S A s.heap s.heap [] := va_S.rf
  have hk0 := hk
  have hl : lv_has ls 1 [(0, .ref q)] := hl
  refine lv_aload_n S.1 S.2.1 dX1_init_0 rfl (lv_at hl 0 rfl) ?_
  refine W.objInit S.1 S.2.1 S.2.2.2.1 (S.2.2.2.2 _ m_112) (S.2.2.2.2 _ m_11) (S.2.2.2.2 _ m_12) rfl (hl.1.trans S.2.2.1.symm) rfl dX1_init_1 (Nat.le_of_ble_eq_true rfl) (Nat.le_of_ble_eq_true rfl) ?_
  exact W.vret S.1 S.2.1 hr (fun t ht hw => ⟨⟨(), rfl, trivial, GW.of hP hD hK hC hN hA hS ht hw⟩, hS.F ht⟩) hS.2.2 dX1_init_4 hlk
