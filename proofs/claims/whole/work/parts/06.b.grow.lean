theorem mx_295 : (Cond.methodLink RJx4a65c 79 Lib.Math.max.name) ∈ wsL := List.mem_filter.mpr ⟨List.mem_of_getElem? (i := 295) (by decide +kernel), by decide +kernel⟩
theorem iNlt0 {a b : Int32} (h : a ≤ b) : ¬ b < a := by rw [Int32.lt_iff_toInt_lt]; rw [Int32.le_iff_toInt_le] at h; omega
theorem iNle0 {a b : Int32} (h : a < b) : ¬ b ≤ a := by rw [Int32.le_iff_toInt_le]; rw [Int32.lt_iff_toInt_lt] at h; omega
theorem set_app {α : Type} {ws : List α} {b y z : α} {k : Nat} (h : ws[k]? = some z) : (ws ++ [b]).set k y = ws.set k y ++ [b] := List.set_append_left _ _ (List.getElem?_eq_some_iff.mp h).1
/-- what a full list grows to -/
def ncap (c : Nat) : Nat := c + (if 1 < c / 2 then c / 2 else 1)
theorem newLength_eq {c : Nat} (h0 : 0 < c) (h : c ≤ 50000) : fJ_newLength (nI c) (nI (c + 1) - nI c) (nI c >>> ((1 : Int32) &&& 31)) = some (nI (ncap c)) := by
  have e1 : nI (c + 1) - nI c = nI 1 := by rw [pk_sub (by omega)]; congr 1; omega
  have e2 : nI c >>> ((1 : Int32) &&& 31) = nI (c / 2) := pk_shrN (by omega) _ 1 (by decide)
  have e3 : (if nI 1 < nI (c / 2) then nI (c / 2) else nI 1) = nI (if 1 < c / 2 then c / 2 else 1) := by
    by_cases q : 1 < c / 2
    · rw [if_pos q, if_pos (nI_lt q (by omega))]
    · rw [if_neg q, if_neg (nI_nlt (by omega) (by omega))]
  have e4 : nI c + nI (if 1 < c / 2 then c / 2 else 1) = nI (ncap c) := nI_add _ _
  have hb : ncap c ≤ 100000 := by unfold ncap; split <;> omega
  have hp : 0 < ncap c := by unfold ncap; omega
  unfold fJ_newLength
  rw [e1, e2, e3, e4]
  have c1 : ¬ nI (ncap c) ≤ 0 := fun q => absurd (nI_lt (a := 0) (b := ncap c) hp (by omega)) (iNlt0 q)
  have c2 : ¬ (2147483639 : Int32) < nI (ncap c) := fun q => absurd (nI_leI (a := ncap c) (b := 2147483639) (by omega) (by decide) |>.mpr (by omega)) (iNle0 q)
  simp [c1, c2]
set_option maxRecDepth 100000 in
set_option maxHeartbeats 4000000 in
theorem cG_growE (l : Launch) (D : va_G) (tys : List (ClassId × FieldType)) (A : Nat → Prop) (kk : Nat → Nat) (ws : va_W) {k0 t0 q : Nat} {mc v : Int32} {cO : ClassId} (hk : ws[k0]? = some (q, .inr (0, [.int mc, .ref (kk 41), .int v]))) (ht : tys[t0]? = some (cO, .object "java/lang/Object")) :
    Mr l yJx4a65c_grow_92f84 cJx4a65c_grow_92f84 4 (.array (.object "java/lang/Object")) { frames := 3, cells := 1, slots := 10, locals := 104 } [.ref q, .int (nI 1)] (GW D tys A kk ws) (fun a t => GW D tys A kk (ws.set k0 (q, .inr (0, [.int mc, .ref a, .int v])) ++ [(a, .inl (cO, 10, .inr (.inr (.inr (.inr (fun _ => none))))))]) t) A := by
  refine Mr.of (own := RJx4a65c) rfl (by decide +kernel) (Nat.le_of_ble_eq_true rfl) ?_
  intro p e s m args below meth c ls S hr hlk hG hl
  obtain ⟨hP, hD, hK, hC, hN, hA⟩ := hG
  have hS : va_S A s.heap s.heap [] := va_S.rf
  have hl : lv_has ls 4 [(0, .ref q), (1, .int (nI 1))] := hl
  refine lv_aload_n S.1 S.2.1 dJx4a65c_grow_92f84_0 rfl (lv_at hl 0 rfl) ?_
  refine va_get (D := D) (ci := 0) (v := .ref (kk 41)) (C := RJx4a65c) (T := TJx4a65c) (N := 3) S.1 S.2.1 S.2.2.2.2 inJx4a65c S.2.2.2.1 hK hP k0 hk rfl 1 (by decide) (S.2.2.2.2 _ m_92) (fun _ h => h) rfl dJx4a65c_grow_92f84_1 ?_
  refine va_tlen (v := 0) S.1 S.2.1 hC.2.2.2.2.2.2.1 hS rfl dJx4a65c_grow_92f84_4 ?_
  refine lv_istore_n (lv' := [(2, .int 0), (0, .ref q), (1, .int (nI 1))]) S.1 S.2.1 dJx4a65c_grow_92f84_5 rfl hl (by decide) rfl (fun ls hl => ?_)
  refine lv_iload_n S.1 S.2.1 dJx4a65c_grow_92f84_6 rfl (lv_at hl 0 rfl) ?_
  refine lv_if_gt (tgt := 20) S.1 S.2.1 dJx4a65c_grow_92f84_7 (by decide) (fun h => absurd h (by decide)) (fun _ => ?_)
  refine lv_aload_n S.1 S.2.1 dJx4a65c_grow_92f84_10 rfl (lv_at hl 1 rfl) ?_
  refine va_get (D := D) (ci := 0) (v := .ref (kk 41)) (C := RJx4a65c) (T := TJx4a65c) (N := 3) S.1 S.2.1 S.2.2.2.2 inJx4a65c S.2.2.2.1 hK hP k0 hk rfl 1 (by decide) (S.2.2.2.2 _ m_92) (fun _ h => h) rfl dJx4a65c_grow_92f84_11 ?_
  refine va_gets S.1 S.2.1 hC.2.2.2.2.2.1 hS S.2.2.2.1 (S.2.2.2.2 _ m_91) (fun _ h => h) dJx4a65c_grow_92f84_14 ?_
  refine lv_acmp_eq (rx := some (kk 41)) (ry := some (kk 41)) (tgt := 45) S.1 S.2.1 dJx4a65c_grow_92f84_17 (by decide) (fun _ => ?_) (fun h => absurd rfl h)
  refine lv_aload_n S.1 S.2.1 dJx4a65c_grow_92f84_45 rfl (lv_at hl 1 rfl) ?_
  refine lv_bipush (v := 10) S.1 S.2.1 dJx4a65c_grow_92f84_46 (by decide) ?_
  refine lv_iload_n S.1 S.2.1 dJx4a65c_grow_92f84_48 rfl (lv_at hl 2 rfl) ?_
  refine va_mmax S.1 S.2.1 (S.2.2.1.trans hl.1.symm) S.2.2.2.1 (S.2.2.2.2 _ mx_295) (S.2.2.2.2 _ mx_256) (S.2.2.2.2 _ m_134) (S.2.2.2.2 _ mx_257) (Nat.le_of_ble_eq_true rfl) (Nat.le_of_ble_eq_true rfl) (Nat.le_of_ble_eq_true rfl) (Nat.le_of_ble_eq_true rfl) dJx4a65c_grow_92f84_49 ?_
  rw [if_neg (by decide)]
  refine va_newq (N' := 10) S.1 S.2.1 S.2.2.2.1 (S.2.2.2.2 _ m_136) hC.2.2.2.2.2.2.2.2.2.1 hK hP hD hS hA (by decide) (by decide) (by decide) (Nat.le_of_ble_eq_true rfl) (Nat.le_of_ble_eq_true rfl) dJx4a65c_grow_92f84_52 (fun a cB H hK1 hP hD hS => ?_)
  obtain rfl : cB = cO := cls_one hK hK1 ht (at_last tys _)
  refine lv_dup_x1 S.1 S.2.1 dJx4a65c_grow_92f84_55 rfl rfl ?_
  refine va_put (D := D) (ci := 0) (v := .ref a) (ty := .array (.object "java/lang/Object")) (C := RJx4a65c) (T := TJx4a65c) (N := 3) S.1 S.2.1 S.2.2.2.2 inJx4a65c tyJx4a65c tyJx4a65c_ok nmJx4a65c S.2.2.2.1 hK hP hD hS k0 (app_atL hk) rfl 1 (by decide) (S.2.2.2.2 _ m_92) (fun _ h => h) rfl (by decide +kernel) rfl rfl (Nat.le_of_ble_eq_true rfl) dJx4a65c_grow_92f84_56 (fun H locs hP hD hS => ?_)
  rw [set_app hk] at hP hD
  exact W.aret S.1 S.2.1 hr (Or.inr ⟨_, rfl⟩) (Or.inr ⟨a, rfl⟩) (fun t ht hw => ⟨⟨(), a, rfl, trivial, GW.of hP hD hK hC hN hA hS ht hw⟩, hS.F ht⟩) hS.2.2 dJx4a65c_grow_92f84_59 hlk
set_option maxRecDepth 100000 in
set_option maxHeartbeats 4000000 in
theorem cG_growO (l : Launch) (D : va_G) (tys : List (ClassId × FieldType)) (A : Nat → Prop) (kk : Nat → Nat) (ws : va_W) {k0 kd t0 q da cap : Nat} {mc v : Int32} {cO : ClassId} {row : Nat → Option Nat} (hk : ws[k0]? = some (q, .inr (0, [.int mc, .ref da, .int v]))) (hd : ws[kd]? = some (da, .inl (cO, cap, .inr (.inr (.inr (.inr row)))))) (ht : tys[t0]? = some (cO, .object "java/lang/Object")) (hc0 : 0 < cap) (hc1 : cap ≤ 50000) (hel : ∀ i, i < cap → ∀ y, row i = some y → Elm ws y) :
    Mr l yJx4a65c_grow_92f84 cJx4a65c_grow_92f84 4 (.array (.object "java/lang/Object")) { frames := 3, cells := 1, slots := ncap cap, locals := 104 } [.ref q, .int (nI (cap + 1))] (GW D tys A kk ws) (fun a t => GW D tys A kk (ws.set k0 (q, .inr (0, [.int mc, .ref a, .int v])) ++ [(a, .inl (cO, ncap cap, .inr (.inr (.inr (.inr (va_cpy row (fun _ => none) 0 0 cap))))))]) t) A := by
  have hb : ncap cap ≤ 100000 := by unfold ncap; split <;> omega
  have hge : cap ≤ ncap cap := Nat.le_add_right _ _
  refine Mr.of (own := RJx4a65c) rfl (by decide +kernel) (Nat.le_of_ble_eq_true rfl) ?_
  intro p e s m args below meth c ls S hr hlk hG hl
  obtain ⟨hP, hD, hK, hC, hN, hA⟩ := hG
  have hS : va_S A s.heap s.heap [] := va_S.rf
  have hl : lv_has ls 4 [(0, .ref q), (1, .int (nI (cap + 1)))] := hl
  refine lv_aload_n S.1 S.2.1 dJx4a65c_grow_92f84_0 rfl (lv_at hl 0 rfl) ?_
  refine va_get (D := D) (ci := 0) (v := .ref da) (C := RJx4a65c) (T := TJx4a65c) (N := 3) S.1 S.2.1 S.2.2.2.2 inJx4a65c S.2.2.2.1 hK hP k0 hk rfl 1 (by decide) (S.2.2.2.2 _ m_92) (fun _ h => h) rfl dJx4a65c_grow_92f84_1 ?_
  refine va_alen (v := nI cap) S.1 S.2.1 hK hP kd t0 hd ht rfl dJx4a65c_grow_92f84_4 ?_
  refine lv_istore_n (lv' := [(2, .int (nI cap)), (0, .ref q), (1, .int (nI (cap + 1)))]) S.1 S.2.1 dJx4a65c_grow_92f84_5 rfl hl (by decide) rfl (fun ls hl => ?_)
  refine lv_iload_n S.1 S.2.1 dJx4a65c_grow_92f84_6 rfl (lv_at hl 0 rfl) ?_
  refine lv_if_gt (tgt := 20) S.1 S.2.1 dJx4a65c_grow_92f84_7 (by decide) (fun _ => ?_) (fun h => absurd (nI_lt (a := 0) hc0 (by omega)) h)
  refine lv_iload_n S.1 S.2.1 dJx4a65c_grow_92f84_20 rfl (lv_at hl 0 rfl) ?_
  refine lv_iload_n S.1 S.2.1 dJx4a65c_grow_92f84_21 rfl (lv_at hl 2 rfl) ?_
  refine lv_iload_n S.1 S.2.1 dJx4a65c_grow_92f84_22 rfl (lv_at hl 0 rfl) ?_
  refine lv_isub S.1 S.2.1 dJx4a65c_grow_92f84_23 ?_
  refine lv_iload_n S.1 S.2.1 dJx4a65c_grow_92f84_24 rfl (lv_at hl 0 rfl) ?_
  refine lv_iconst (v := 1) S.1 S.2.1 dJx4a65c_grow_92f84_25 (by decide) ?_
  refine lv_ishr S.1 S.2.1 dJx4a65c_grow_92f84_26 ?_
  refine sc_i (k := 3) (As := [.int (nI cap), .int (nI (cap + 1) - nI cap), .int (nI cap >>> ((1 : Int32) &&& 31))]) (rest := []) (cJ_newLength l (newLength_eq hc0 hc1)) S (gd_S m_137 m_138 m_139 m_140) rfl rfl (by decide +kernel) ⟨Nat.le_of_ble_eq_true rfl, Nat.le_of_ble_eq_true rfl⟩ rfl hl.1 rfl (Nat.le_of_ble_eq_true rfl) ⟨Nat.zero_le _, Nat.zero_le _⟩ dJx4a65c_grow_92f84_27 ?_
  refine lv_istore_n (lv' := [(3, .int (nI (ncap cap))), (2, .int (nI cap)), (0, .ref q), (1, .int (nI (cap + 1)))]) S.1 S.2.1 dJx4a65c_grow_92f84_30 rfl hl (by decide) rfl (fun ls hl => ?_)
  refine lv_aload_n S.1 S.2.1 dJx4a65c_grow_92f84_31 rfl (lv_at hl 2 rfl) ?_
  refine lv_aload_n S.1 S.2.1 dJx4a65c_grow_92f84_32 rfl (lv_at hl 2 rfl) ?_
  refine va_get (D := D) (ci := 0) (v := .ref da) (C := RJx4a65c) (T := TJx4a65c) (N := 3) S.1 S.2.1 S.2.2.2.2 inJx4a65c S.2.2.2.1 hK hP k0 hk rfl 1 (by decide) (S.2.2.2.2 _ m_92) (fun _ h => h) rfl dJx4a65c_grow_92f84_33 ?_
  refine lv_iload_n S.1 S.2.1 dJx4a65c_grow_92f84_36 rfl (lv_at hl 0 rfl) ?_
  refine va_callr (va_runS (As := [.ref da, .int (nI (ncap cap))]) (rest := [.ref q]) (n := 2) S (cG_copyOf2 l D tys A kk ws hb hge hd ht hel) (va_cwS 2 S.2.2.2.2 (gd_S m_146 m_147 m_86 m_148) rfl rfl rfl (by decide +kernel) ⟨Nat.le_of_ble_eq_true rfl, Nat.le_of_ble_eq_true rfl⟩) ⟨fun a U g mk q => ⟨q.1, q.2.same⟩, fun U hU hw => ⟨rfl, GW.of hP hD hK hC hN hA hS hU hw⟩⟩ rfl rfl hl.1 rfl (lv_room (Nat.le_of_ble_eq_true rfl)) dJx4a65c_grow_92f84_37 ⟨Nat.le_refl 1, by show 0 + ncap cap ≤ ncap cap; omega⟩) hS (fun q _ h => h) (fun _ h => h) ?_
  intro u a t H1 locs1 ht1 hvm _ hB _ _ hS
  have hP : va_P D vwCl (ws ++ [(a, .inl (cO, ncap cap, .inr (.inr (.inr (.inr (va_cpy row (fun _ => none) 0 0 cap))))))]) H1 := by rw [← ht1]; exact hB.1
  have hD := hB.2.1
  refine lv_dup_x1 S.1 S.2.1 dJx4a65c_grow_92f84_40 rfl rfl ?_
  refine va_put (D := D) (ci := 0) (v := .ref a) (ty := .array (.object "java/lang/Object")) (C := RJx4a65c) (T := TJx4a65c) (N := 3) S.1 S.2.1 S.2.2.2.2 inJx4a65c tyJx4a65c tyJx4a65c_ok nmJx4a65c S.2.2.2.1 hK hP hD hS k0 (app_atL hk) rfl 1 (by decide) (S.2.2.2.2 _ m_92) (fun _ h => h) rfl (by decide +kernel) rfl rfl (Nat.le_of_ble_eq_true rfl) dJx4a65c_grow_92f84_41 (fun H locs hP hD hS => ?_)
  rw [set_app hk] at hP hD
  refine W.cs (cells' := 1) (slots' := ncap cap) rfl (by show 0 + ncap cap = ncap cap; omega) ?_
  exact W.aret S.1 S.2.1 hr (Or.inr ⟨_, rfl⟩) (Or.inr ⟨a, rfl⟩) (fun t ht hw => ⟨⟨(), a, rfl, trivial, GW.of hP hD hK hC hN hA hS ht hw⟩, hS.F ht⟩) hS.2.2 dJx4a65c_grow_92f84_44 hlk
set_option maxRecDepth 100000 in
set_option maxHeartbeats 4000000 in
/-- grow(), out of grow(int) -/
theorem cG_grow0 (l : Launch) (D : va_G) (tys : List (ClassId × FieldType)) (A : Nat → Prop) (kk : Nat → Nat) (ws : va_W) {k0 q da n N : Nat} {mc : Int32} {B : Nat → State → Prop} (hk : ws[k0]? = some (q, .inr (0, [.int mc, .ref da, .int (nI n)])))
    (hM : Mr l yJx4a65c_grow_92f84 cJx4a65c_grow_92f84 4 (.array (.object "java/lang/Object")) { frames := 3, cells := 1, slots := N, locals := 104 } [.ref q, .int (nI (n + 1))] (GW D tys A kk ws) B A) (hB : ∀ a t, B a t → ∃ ws', GW D tys A kk ws' t ∧ ∀ t', GW D tys A kk ws' t' → B a t') :
    Mr l yJx4a65c_grow_d5877 cJx4a65c_grow_d5877 1 (.array (.object "java/lang/Object")) { frames := 4, cells := 1, slots := N, locals := 127 } [.ref q] (GW D tys A kk ws) B A := by
  refine Mr.of (own := RJx4a65c) rfl (by decide +kernel) (Nat.le_of_ble_eq_true rfl) ?_
  intro p e s m args below meth c ls S hr hlk hG hl
  obtain ⟨hP, hD, hK, hC, hN, hA⟩ := hG
  have hS : va_S A s.heap s.heap [] := va_S.rf
  have hl : lv_has ls 1 [(0, .ref q)] := hl
  refine lv_aload_n S.1 S.2.1 dJx4a65c_grow_d5877_0 rfl (lv_at hl 0 rfl) ?_
  refine lv_aload_n S.1 S.2.1 dJx4a65c_grow_d5877_1 rfl (lv_at hl 0 rfl) ?_
  refine va_get (D := D) (ci := 0) (v := .int (nI n)) (C := RJx4a65c) (T := TJx4a65c) (N := 3) S.1 S.2.1 S.2.2.2.2 inJx4a65c S.2.2.2.1 hK hP k0 hk rfl 2 (by decide) (S.2.2.2.2 _ m_119) (fun _ h => h) rfl dJx4a65c_grow_d5877_2 ?_
  refine lv_iconst (v := 1) S.1 S.2.1 dJx4a65c_grow_d5877_5 (by decide) ?_
  refine lv_iadd S.1 S.2.1 dJx4a65c_grow_d5877_6 ?_
  rw [nI_1]
  refine va_callr (va_runV (As := [.int (nI (n + 1))]) (rest := []) (n := 1) S hM (cwV 1 S.2.2.2.2 (gd_V m_128 m_129 m_130 m_72 m_131) rfl rfl rfl (by decide +kernel) ⟨Nat.le_of_ble_eq_true rfl, Nat.le_of_ble_eq_true rfl⟩) ⟨fun a U g mk q => ⟨q.1, q.2.same⟩, va_recv hK hP (ci := 0) rfl hk, fun U hU hw => ⟨rfl, GW.of hP hD hK hC hN hA hS hU hw⟩⟩ rfl rfl hl.1 rfl (lv_room (Nat.le_of_ble_eq_true rfl)) dJx4a65c_grow_d5877_7 ⟨Nat.le_refl 1, by show 0 + N ≤ N; omega⟩) hS (fun q _ h => h) (fun _ h => h) ?_
  intro u a t H1 locs1 ht1 hvm _ hB1 _ _ hS
  obtain ⟨ws', hG', hB'⟩ := hB a t hB1
  refine W.cs (cells' := 1) (slots' := N) rfl (by show 0 + N = N; omega) ?_
  exact W.aret S.1 S.2.1 hr (Or.inr ⟨_, rfl⟩) (Or.inr ⟨a, rfl⟩) (fun t2 ht2 hw => ⟨⟨(), a, rfl, trivial, hB' t2 (GW.of (by rw [← ht1]; exact hG'.1) hG'.2.1 hK hC hN hA hS ht2 hw)⟩, hS.F ht2⟩) hS.2.2 dJx4a65c_grow_d5877_10 hlk

