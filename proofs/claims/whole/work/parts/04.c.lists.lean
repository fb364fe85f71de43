def fJ_checkIdx0 (a1 : Int32) (a2 : Int32) : Option Int32 :=
  if a1 < 0 then
  none
  else
  if a1 < a2 then
  some a1
  else
  none
set_option maxRecDepth 100000 in
set_option maxHeartbeats 4000000 in
theorem cJ_checkIdx0 (l : Launch) {a1 : Int32} {a2 : Int32} {o : Int32} (hF : fJ_checkIdx0 a1 a2 = some o) : Ms l yJ3_checkIndex_8e157 cJ3_checkIndex_8e157 3 .int { frames := 0, cells := 0, slots := 0, locals := 0 } [.int a1, .int a2, .null] o := by
  refine Ms.of (own := RJ3) rfl (by decide +kernel) (Nat.le_of_ble_eq_true rfl) ?_
  intro p e s m args below meth c ls S hr hlk hl
  have hl : lv_has ls 3 [(0, .int a1), (1, .int a2), (2, .null)] := hl
  rw [fJ_checkIdx0] at hF
  refine lv_iload_n S.1 S.2.1 dJ3_checkIndex_8e157_0 rfl (lv_at hl 0 rfl) ?_
  refine lv_if_lt (tgt := 9) S.1 S.2.1 dJ3_checkIndex_8e157_1 (by decide) (fun hc => ?_) (fun hc => ?_)
  · have hF := it_pos hc hF
    cases hF
  · have hF := it_neg hc hF
    refine lv_iload_n S.1 S.2.1 dJ3_checkIndex_8e157_4 rfl (lv_at hl 0 rfl) ?_
    refine lv_iload_n S.1 S.2.1 dJ3_checkIndex_8e157_5 rfl (lv_at hl 1 rfl) ?_
    refine lv_icmp_lt (tgt := 16) S.1 S.2.1 dJ3_checkIndex_8e157_6 (by decide) (fun hc => ?_) (fun hc => ?_)
    · have hF := it_pos hc hF
      refine lv_iload_n S.1 S.2.1 dJ3_checkIndex_8e157_16 rfl (lv_at hl 0 rfl) ?_
      obtain rfl := Option.some.inj hF
      exact rs_i S hr hlk rfl rfl dJ3_checkIndex_8e157_17
    · have hF := it_neg hc hF
      cases hF
def fJ_checkIndex (a1 : Int32) (a2 : Int32) : Option Int32 :=
  Option.bind (fJ_checkIdx0 a1 a2) (fun u1 =>
  some u1)
set_option maxRecDepth 100000 in
set_option maxHeartbeats 4000000 in
theorem cJ_checkIndex (l : Launch) {a1 : Int32} {a2 : Int32} {o : Int32} (hF : fJ_checkIndex a1 a2 = some o) : Ms l yJ15_checkIndex_7cf53 cJ15_checkIndex_7cf53 2 .int { frames := 1, cells := 0, slots := 0, locals := 22 } [.int a1, .int a2] o := by
  refine Ms.of (own := RJ15) rfl (by decide +kernel) (Nat.le_of_ble_eq_true rfl) ?_
  intro p e s m args below meth c ls S hr hlk hl
  have hl : lv_has ls 2 [(0, .int a1), (1, .int a2)] := hl
  rw [fJ_checkIndex] at hF
  refine lv_iload_n S.1 S.2.1 dJ15_checkIndex_7cf53_0 rfl (lv_at hl 0 rfl) ?_
  refine lv_iload_n S.1 S.2.1 dJ15_checkIndex_7cf53_1 rfl (lv_at hl 1 rfl) ?_
  refine lv_null S.1 S.2.1 dJ15_checkIndex_7cf53_2 ?_
  obtain ⟨u1, hu1, hF⟩ := bd_of hF
  refine sc_i (k := 3) (As := [.int a1, .int a2, .null]) (rest := []) (cJ_checkIdx0 l hu1) S (gd_S m_587 m_312 m_313 m_314) rfl rfl (by decide +kernel) ⟨Nat.le_of_ble_eq_true rfl, Nat.le_of_ble_eq_true rfl⟩ rfl hl.1 rfl (Nat.le_of_ble_eq_true rfl) ⟨Nat.le_of_ble_eq_true rfl, Nat.le_of_ble_eq_true rfl⟩ dJ15_checkIndex_7cf53_3 ?_
  obtain rfl := Option.some.inj hF
  exact rs_i S hr hlk rfl rfl dJ15_checkIndex_7cf53_6
def LQ (D : va_G) (tys : List (ClassId × FieldType)) (ws : va_W) (U : State) : Prop := va_P D vwCl ws U.heap ∧ va_K D vwCl tys U
theorem LQ.same {D : va_G} {tys : List (ClassId × FieldType)} {ws : va_W} {U : State} (h : LQ D tys ws U) {g : JFrame} {mk : MethodId} {a : Array Value} : LQ D tys ws (U.calling g mk a) := ⟨h.1, va_K.moved (u := U) (U := U.calling g mk a) (Vm.Alike.refl U.vm) h.2⟩
set_option maxHeartbeats 4000000 in
theorem cL_size (l : Launch) (D : va_G) (q da : Nat) (mc v : Int32) : Mp l yJx4a65c_size_8abf5 cJx4a65c_size_8abf5 1 .int { frames := 0, cells := 0, slots := 0, locals := 0 } [.ref q] (LQ D [] [(q, .inr (0, [.int mc, .ref da, .int v]))]) v := by
  refine Mp.of (own := RJx4a65c) rfl (by decide +kernel) (Nat.le_of_ble_eq_true rfl) ?_
  intro p e s m args below meth c ls S hr hlk hP hl
  have hl : lv_has ls 1 [(0, .ref q)] := hl
  refine lv_aload_n S.1 S.2.1 dJx4a65c_size_8abf5_0 rfl (lv_at hl 0 rfl) ?_
  refine va_get (D := D) (ci := 0) (v := .int v) (C := RJx4a65c) (T := TJx4a65c) (N := 3) S.1 S.2.1 S.2.2.2.2 inJx4a65c S.2.2.2.1 hP.2 hP.1 0 rfl rfl 2 (by decide) (S.2.2.2.2 _ m_119) (fun _ h => h) rfl dJx4a65c_size_8abf5_1 ?_
  exact rs_i S hr hlk rfl rfl dJx4a65c_size_8abf5_4
set_option maxHeartbeats 4000000 in
theorem cL_elem (l : Launch) (D : va_G) (q da cap : Nat) (mc v i : Int32) (cO : ClassId) (row : Nat → Option Nat) (hin : ¬ (i < 0 ∨ cap ≤ i.toNatClampNeg)) : Mpo l yJx4a65c_elementData_915e3 cJx4a65c_elementData_915e3 2 (.object "java/lang/Object") { frames := 0, cells := 0, slots := 0, locals := 0 } [.ref q, .int i] (LQ D [(cO, .object "java/lang/Object")] [(q, .inr (0, [.int mc, .ref da, .int v])), (da, .inl (cO, cap, .inr (.inr (.inr (.inr row)))))]) (row i.toNatClampNeg) := by
  refine Mpo.of (own := RJx4a65c) rfl (by decide +kernel) (Nat.le_of_ble_eq_true rfl) ?_
  intro p e s m args below meth c ls S hr hlk hP hl
  have hl : lv_has ls 2 [(0, .ref q), (1, .int i)] := hl
  refine lv_aload_n S.1 S.2.1 dJx4a65c_elementData_915e3_0 rfl (lv_at hl 0 rfl) ?_
  refine va_get (D := D) (ci := 0) (v := .ref da) (C := RJx4a65c) (T := TJx4a65c) (N := 3) S.1 S.2.1 S.2.2.2.2 inJx4a65c S.2.2.2.1 hP.2 hP.1 0 rfl rfl 1 (by decide) (S.2.2.2.2 _ m_92) (fun _ h => h) rfl dJx4a65c_elementData_915e3_1 ?_
  refine lv_iload_n S.1 S.2.1 dJx4a65c_elementData_915e3_4 rfl (lv_at hl 1 rfl) ?_
  refine va_aldq S.1 S.2.1 hP.2 hP.1 1 0 rfl rfl hin dJx4a65c_elementData_915e3_5 ?_
  exact rs_o S hr (Or.inl ⟨_, rfl⟩) hlk rfl dJx4a65c_elementData_915e3_6
theorem idx_lt {i : Int32} {n : Nat} (hn : n < 2 ^ 31) (hin : ¬ (i < 0 ∨ n ≤ i.toNatClampNeg)) : ¬ i < 0 ∧ i < nI n := by
  refine ⟨fun h => hin (Or.inl h), ?_⟩
  obtain ⟨j, hj, rfl⟩ := vp_in_of (x := i) (n := n) hin hn
  exact nI_lt hj hn
theorem f_chk {i : Int32} {n : Nat} (hn : n < 2 ^ 31) (hin : ¬ (i < 0 ∨ n ≤ i.toNatClampNeg)) : fJ_checkIndex i (nI n) = some i := by
  obtain ⟨h1, h2⟩ := idx_lt hn hin
  simp [fJ_checkIndex, fJ_checkIdx0, h1, h2]
set_option maxHeartbeats 4000000 in
theorem cL_get (l : Launch) (D : va_G) (q da cap n : Nat) (mc i : Int32) (cO : ClassId) (row : Nat → Option Nat) (hn : n < 2 ^ 31) (hc : n ≤ cap) (hin : ¬ (i < 0 ∨ n ≤ i.toNatClampNeg)) : Mpo l yJx4a65c_get_915e3 cJx4a65c_get_915e3 2 (.object "java/lang/Object") { frames := 2, cells := 0, slots := 0, locals := 43 } [.ref q, .int i] (LQ D [(cO, .object "java/lang/Object")] [(q, .inr (0, [.int mc, .ref da, .int (nI n)])), (da, .inl (cO, cap, .inr (.inr (.inr (.inr row)))))]) (row i.toNatClampNeg) := by
  refine Mpo.of (own := RJx4a65c) rfl (by decide +kernel) (Nat.le_of_ble_eq_true rfl) ?_
  intro p e s m args below meth c ls S hr hlk hP hl
  have hl : lv_has ls 2 [(0, .ref q), (1, .int i)] := hl
  refine lv_iload_n S.1 S.2.1 dJx4a65c_get_915e3_0 rfl (lv_at hl 1 rfl) ?_
  refine lv_aload_n S.1 S.2.1 dJx4a65c_get_915e3_1 rfl (lv_at hl 0 rfl) ?_
  refine va_get (D := D) (ci := 0) (v := .int (nI n)) (C := RJx4a65c) (T := TJx4a65c) (N := 3) S.1 S.2.1 S.2.2.2.2 inJx4a65c S.2.2.2.1 hP.2 hP.1 0 rfl rfl 2 (by decide) (S.2.2.2.2 _ m_119) (fun _ h => h) rfl dJx4a65c_get_915e3_2 ?_
  refine sc_i (k := 2) (As := [.int i, .int (nI n)]) (rest := []) (cJ_checkIndex l (f_chk hn hin)) S (gd_S m_583 m_584 m_585 m_586) rfl rfl (by decide +kernel) ⟨Nat.le_of_ble_eq_true rfl, Nat.le_of_ble_eq_true rfl⟩ rfl hl.1 rfl (Nat.le_of_ble_eq_true rfl) ⟨Nat.le_of_ble_eq_true rfl, Nat.le_of_ble_eq_true rfl⟩ dJx4a65c_get_915e3_5 ?_
  refine lv_pop S.1 S.2.1 dJx4a65c_get_915e3_8 rfl ?_
  refine lv_aload_n S.1 S.2.1 dJx4a65c_get_915e3_9 rfl (lv_at hl 0 rfl) ?_
  refine lv_iload_n S.1 S.2.1 dJx4a65c_get_915e3_10 rfl (lv_at hl 1 rfl) ?_
  refine va_csq (rest := []) (W.runV (As := [.int i]) (rest := []) (n := 1) S (cL_elem l D q da cap mc (nI n) i cO row (fun h => hin (h.imp id (fun h => Nat.le_trans hc h)))) (cwV 1 S.2.2.2.2 (gd_V m_588 m_589 m_590 m_72 m_591) rfl rfl rfl (by decide +kernel) ⟨Nat.le_of_ble_eq_true rfl, Nat.le_of_ble_eq_true rfl⟩) ⟨fun a U g mk q => ⟨q.1, q.2.same⟩, va_recv hP.2 hP.1 (ci := 0) (q0 := 0) rfl rfl, fun U hU hw => ⟨rfl, by rw [hU]; exact hP.1, va_K.moved hw.alike hP.2⟩⟩ rfl rfl hl.1 rfl (lv_room (Nat.le_of_ble_eq_true rfl)) dJx4a65c_get_915e3_11 ⟨Nat.le_of_ble_eq_true rfl, Nat.le_of_ble_eq_true rfl⟩) ?_
  intro r he
  subst he
  exact rs_o S hr (Or.inl ⟨_, rfl⟩) hlk rfl dJx4a65c_get_915e3_14
theorem capOf_ge {n : Nat} (h : n ≤ 1234) : n ≤ capOf n := by unfold capOf; (repeat' split) <;> omega
theorem capOf_ne {n : Nat} (h : 0 < n) : capOf n ≠ 0 := by unfold capOf; (repeat' split) <;> omega
theorem va_P.two {D : va_G} {cl : List vw_C} {ws : va_W} {H : Heap} {c1 c2 : Nat × va_E} {a b : Nat} (hP : va_P D cl ws H) (h1 : ws[a]? = some c1) (h2 : ws[b]? = some c2) : va_P D cl [c1, c2] H := fun k q hk => by
  match k, hk with
  | 0, hk => cases hk; exact hP a _ h1
  | 1, hk => cases hk; exact hP b _ h2
section LR
variable {p : Program} {l : Launch} {e : Env} {R : Room} {s : State} {m : MethodId} {args : Array Value} {below : List Frame} {meth : Method} {c : Code} {H : Heap} {locs : List Loc} {Q : State → Prop} {cc : ByteArray} {nL pc : Nat} {ls : Array Slot} {rest st : List Value} {own : String} {A : Nat → Prop} {D : va_G} {ad aM aC aE : Nat → Nat} {cA : Nat → ClassId} {kk : Nat → Nat} {X : va_W} {σ : SC} {cells slots idx : Nat} {lm : Nat → Int32} {la lc : Nat → Nat} {lr : Nat → Nat → Option Nat}

theorem cd_at0 (h : lc 0 ≠ 0) : ∃ k : Nat, (ccells ad aM aC aE cA lm la lc lr X σ)[k]? = some (la 0, .inl (cA 30, lc 0, .inr (.inr (.inr (.inr (lr 0)))))) := List.mem_iff_getElem?.mp (by simp [ccells, cds, h])
theorem xsz_0 (S : CallFix p m c cc nL s args wsL own) (hW : CW D ad cA kk A aM aC aE X σ s H locs) (hG : GoodIn wsL (wsV own idx RJx4a65c yJx4a65c_size_8abf5 (Cond.code yJx4a65c_size_8abf5 cJx4a65c_size_8abf5 1 (some .int) :: wsL))) (hR : 1 ≤ R.frames ∧ 20 ≤ R.locals) (hsz : ls.size = nL) (hrm : (rest.map fun v => v.category).sum ≤ 8) (hcs : cells ≤ R.cells ∧ slots ≤ R.slots) (hdg : decode cc pc = .ok (.invokevirtual idx, 3))
    (kq : W p l e R s m args below meth c H locs cells slots Q (F0 m (pc + 3) ls (.int (nI (xn σ 0)) :: rest))) : W p l e R s m args below meth c H locs cells slots Q (F0 m pc ls (.ref (ad 11) :: rest)) := by
  have hrecv := xr_L0 hW
  obtain ⟨⟨lm, la, lc, lr, hP, hD, hL⟩, hE, hF, hS⟩ := hW
  exact kc_i (k := 0) (As := []) (rest := rest) (cL_size l D (ad 11) (la 0) (lm 0) (nI (xn σ 0))) (fun U hU hw => ⟨by rw [hU]; exact fun k q hk => (match k, hk with | 0, hk => by cases hk; exact hP 11 _ rfl), va_K.moved hw.alike (hE.1.sub (tys' := []) [] rfl)⟩) (fun _ _ _ _ h => h.same) hrecv S hG rfl rfl (by decide +kernel) ⟨hR.1, hR.2⟩ rfl hsz rfl hrm hcs hdg kq
theorem xgt_0 {i : Int32} (hin : ¬ (i < 0 ∨ xn σ 0 ≤ i.toNatClampNeg)) (S : CallFix p m c cc nL s args wsL own) (hW : CW D ad cA kk A aM aC aE X σ s H locs) (hG : GoodIn wsL (wsV own idx RJx4a65c yJx4a65c_get_915e3 (Cond.code yJx4a65c_get_915e3 cJx4a65c_get_915e3 2 (some (.object "java/lang/Object")) :: wsL))) (hR : 3 ≤ R.frames ∧ 64 ≤ R.locals) (hsz : ls.size = nL) (hrm : (rest.map fun v => v.category).sum ≤ 8) (hcs : cells ≤ R.cells ∧ slots ≤ R.slots) (hdg : decode cc pc = .ok (.invokevirtual idx, 3))
    (kq : W p l e R s m args below meth c H locs cells slots Q (F0 m (pc + 3) ls (.ref (aM i.toNatClampNeg) :: rest))) : W p l e R s m args below meth c H locs cells slots Q (F0 m pc ls (.int i :: .ref (ad 11) :: rest)) := by
  have hrecv := xr_L0 hW
  obtain ⟨⟨lm, la, lc, lr, hP, hD, hL⟩, hE, hF, hS⟩ := hW
  have hL' : LI (kk 41) aM (xn σ 0) (la 0) (lc 0) (lr 0) := hL.1
  have hlt : i.toNatClampNeg < xn σ 0 := Nat.lt_of_not_le fun h => hin (Or.inr h)
  have hb : xn σ 0 ≤ 900 := by have := hF.2; omega
  have hne : lc 0 ≠ 0 := by rw [hL'.1]; exact capOf_ne (by omega)
  obtain ⟨kd, hkd⟩ := cd_at0 (ad := ad) (aM := aM) (aC := aC) (aE := aE) (cA := cA) (lm := lm) (la := la) (lr := lr) (X := X) (σ := σ) hne
  refine va_csq (rest := rest) (W.runV (As := [.int i]) (rest := rest) (n := 1) S (cL_get l D (ad 11) (la 0) (lc 0) (xn σ 0) (lm 0) i (cA 30) (lr 0) (by omega) (by rw [hL'.1]; exact capOf_ge (by omega)) hin) (cwV 1 S.2.2.2.2 hG rfl rfl rfl (by decide +kernel) ⟨hR.1, hR.2⟩) ⟨fun a U g mk q => ⟨q.1, q.2.same⟩, hrecv, fun U hU hw => ⟨rfl, by rw [hU]; exact hP.two (a := 11) rfl hkd, va_K.moved hw.alike (hE.1.sub (tys' := [(cA 30, .object "java/lang/Object")]) [11] rfl)⟩⟩ rfl rfl hsz rfl (lv_room hrm) hdg ⟨by omega, by omega⟩) ?_
  intro r he
  subst he
  rw [hL'.2.2 _ hlt]
  exact kq
theorem cd_at1 (h : lc 1 ≠ 0) : ∃ k : Nat, (ccells ad aM aC aE cA lm la lc lr X σ)[k]? = some (la 1, .inl (cA 30, lc 1, .inr (.inr (.inr (.inr (lr 1)))))) := List.mem_iff_getElem?.mp (by simp [ccells, cds, h])
theorem xsz_1 (S : CallFix p m c cc nL s args wsL own) (hW : CW D ad cA kk A aM aC aE X σ s H locs) (hG : GoodIn wsL (wsV own idx RJx4a65c yJx4a65c_size_8abf5 (Cond.code yJx4a65c_size_8abf5 cJx4a65c_size_8abf5 1 (some .int) :: wsL))) (hR : 1 ≤ R.frames ∧ 20 ≤ R.locals) (hsz : ls.size = nL) (hrm : (rest.map fun v => v.category).sum ≤ 8) (hcs : cells ≤ R.cells ∧ slots ≤ R.slots) (hdg : decode cc pc = .ok (.invokevirtual idx, 3))
    (kq : W p l e R s m args below meth c H locs cells slots Q (F0 m (pc + 3) ls (.int (nI (xn σ 1)) :: rest))) : W p l e R s m args below meth c H locs cells slots Q (F0 m pc ls (.ref (ad 12) :: rest)) := by
  have hrecv := xr_L1 hW
  obtain ⟨⟨lm, la, lc, lr, hP, hD, hL⟩, hE, hF, hS⟩ := hW
  exact kc_i (k := 0) (As := []) (rest := rest) (cL_size l D (ad 12) (la 1) (lm 1) (nI (xn σ 1))) (fun U hU hw => ⟨by rw [hU]; exact fun k q hk => (match k, hk with | 0, hk => by cases hk; exact hP 12 _ rfl), va_K.moved hw.alike (hE.1.sub (tys' := []) [] rfl)⟩) (fun _ _ _ _ h => h.same) hrecv S hG rfl rfl (by decide +kernel) ⟨hR.1, hR.2⟩ rfl hsz rfl hrm hcs hdg kq
theorem xgt_1 {i : Int32} (hin : ¬ (i < 0 ∨ xn σ 1 ≤ i.toNatClampNeg)) (S : CallFix p m c cc nL s args wsL own) (hW : CW D ad cA kk A aM aC aE X σ s H locs) (hG : GoodIn wsL (wsV own idx RJx4a65c yJx4a65c_get_915e3 (Cond.code yJx4a65c_get_915e3 cJx4a65c_get_915e3 2 (some (.object "java/lang/Object")) :: wsL))) (hR : 3 ≤ R.frames ∧ 64 ≤ R.locals) (hsz : ls.size = nL) (hrm : (rest.map fun v => v.category).sum ≤ 8) (hcs : cells ≤ R.cells ∧ slots ≤ R.slots) (hdg : decode cc pc = .ok (.invokevirtual idx, 3))
    (kq : W p l e R s m args below meth c H locs cells slots Q (F0 m (pc + 3) ls (.ref (aC i.toNatClampNeg) :: rest))) : W p l e R s m args below meth c H locs cells slots Q (F0 m pc ls (.int i :: .ref (ad 12) :: rest)) := by
  have hrecv := xr_L1 hW
  obtain ⟨⟨lm, la, lc, lr, hP, hD, hL⟩, hE, hF, hS⟩ := hW
  have hL' : LI (kk 41) aC (xn σ 1) (la 1) (lc 1) (lr 1) := hL.2.1
  have hlt : i.toNatClampNeg < xn σ 1 := Nat.lt_of_not_le fun h => hin (Or.inr h)
  have hb : xn σ 1 ≤ 900 := by have := hF.2; omega
  have hne : lc 1 ≠ 0 := by rw [hL'.1]; exact capOf_ne (by omega)
  obtain ⟨kd, hkd⟩ := cd_at1 (ad := ad) (aM := aM) (aC := aC) (aE := aE) (cA := cA) (lm := lm) (la := la) (lr := lr) (X := X) (σ := σ) hne
  refine va_csq (rest := rest) (W.runV (As := [.int i]) (rest := rest) (n := 1) S (cL_get l D (ad 12) (la 1) (lc 1) (xn σ 1) (lm 1) i (cA 30) (lr 1) (by omega) (by rw [hL'.1]; exact capOf_ge (by omega)) hin) (cwV 1 S.2.2.2.2 hG rfl rfl rfl (by decide +kernel) ⟨hR.1, hR.2⟩) ⟨fun a U g mk q => ⟨q.1, q.2.same⟩, hrecv, fun U hU hw => ⟨rfl, by rw [hU]; exact hP.two (a := 12) rfl hkd, va_K.moved hw.alike (hE.1.sub (tys' := [(cA 30, .object "java/lang/Object")]) [11] rfl)⟩⟩ rfl rfl hsz rfl (lv_room hrm) hdg ⟨by omega, by omega⟩) ?_
  intro r he
  subst he
  rw [hL'.2.2 _ hlt]
  exact kq
theorem cd_at2 (h : lc 2 ≠ 0) : ∃ k : Nat, (ccells ad aM aC aE cA lm la lc lr X σ)[k]? = some (la 2, .inl (cA 30, lc 2, .inr (.inr (.inr (.inr (lr 2)))))) := List.mem_iff_getElem?.mp (by simp [ccells, cds, h])
theorem xsz_2 (S : CallFix p m c cc nL s args wsL own) (hW : CW D ad cA kk A aM aC aE X σ s H locs) (hG : GoodIn wsL (wsV own idx RJx4a65c yJx4a65c_size_8abf5 (Cond.code yJx4a65c_size_8abf5 cJx4a65c_size_8abf5 1 (some .int) :: wsL))) (hR : 1 ≤ R.frames ∧ 20 ≤ R.locals) (hsz : ls.size = nL) (hrm : (rest.map fun v => v.category).sum ≤ 8) (hcs : cells ≤ R.cells ∧ slots ≤ R.slots) (hdg : decode cc pc = .ok (.invokevirtual idx, 3))
    (kq : W p l e R s m args below meth c H locs cells slots Q (F0 m (pc + 3) ls (.int (nI (xn σ 2)) :: rest))) : W p l e R s m args below meth c H locs cells slots Q (F0 m pc ls (.ref (ad 14) :: rest)) := by
  have hrecv := xr_L2 hW
  obtain ⟨⟨lm, la, lc, lr, hP, hD, hL⟩, hE, hF, hS⟩ := hW
  exact kc_i (k := 0) (As := []) (rest := rest) (cL_size l D (ad 14) (la 2) (lm 2) (nI (xn σ 2))) (fun U hU hw => ⟨by rw [hU]; exact fun k q hk => (match k, hk with | 0, hk => by cases hk; exact hP 14 _ rfl), va_K.moved hw.alike (hE.1.sub (tys' := []) [] rfl)⟩) (fun _ _ _ _ h => h.same) hrecv S hG rfl rfl (by decide +kernel) ⟨hR.1, hR.2⟩ rfl hsz rfl hrm hcs hdg kq
theorem xgt_2 {i : Int32} (hin : ¬ (i < 0 ∨ xn σ 2 ≤ i.toNatClampNeg)) (S : CallFix p m c cc nL s args wsL own) (hW : CW D ad cA kk A aM aC aE X σ s H locs) (hG : GoodIn wsL (wsV own idx RJx4a65c yJx4a65c_get_915e3 (Cond.code yJx4a65c_get_915e3 cJx4a65c_get_915e3 2 (some (.object "java/lang/Object")) :: wsL))) (hR : 3 ≤ R.frames ∧ 64 ≤ R.locals) (hsz : ls.size = nL) (hrm : (rest.map fun v => v.category).sum ≤ 8) (hcs : cells ≤ R.cells ∧ slots ≤ R.slots) (hdg : decode cc pc = .ok (.invokevirtual idx, 3))
    (kq : W p l e R s m args below meth c H locs cells slots Q (F0 m (pc + 3) ls (.ref (aE i.toNatClampNeg) :: rest))) : W p l e R s m args below meth c H locs cells slots Q (F0 m pc ls (.int i :: .ref (ad 14) :: rest)) := by
  have hrecv := xr_L2 hW
  obtain ⟨⟨lm, la, lc, lr, hP, hD, hL⟩, hE, hF, hS⟩ := hW
  have hL' : LI (kk 41) aE (xn σ 2) (la 2) (lc 2) (lr 2) := hL.2.2
  have hlt : i.toNatClampNeg < xn σ 2 := Nat.lt_of_not_le fun h => hin (Or.inr h)
  have hb : xn σ 2 ≤ 900 := by have := hF.2; omega
  have hne : lc 2 ≠ 0 := by rw [hL'.1]; exact capOf_ne (by omega)
  obtain ⟨kd, hkd⟩ := cd_at2 (ad := ad) (aM := aM) (aC := aC) (aE := aE) (cA := cA) (lm := lm) (la := la) (lr := lr) (X := X) (σ := σ) hne
  refine va_csq (rest := rest) (W.runV (As := [.int i]) (rest := rest) (n := 1) S (cL_get l D (ad 14) (la 2) (lc 2) (xn σ 2) (lm 2) i (cA 30) (lr 2) (by omega) (by rw [hL'.1]; exact capOf_ge (by omega)) hin) (cwV 1 S.2.2.2.2 hG rfl rfl rfl (by decide +kernel) ⟨hR.1, hR.2⟩) ⟨fun a U g mk q => ⟨q.1, q.2.same⟩, hrecv, fun U hU hw => ⟨rfl, by rw [hU]; exact hP.two (a := 14) rfl hkd, va_K.moved hw.alike (hE.1.sub (tys' := [(cA 30, .object "java/lang/Object")]) [11] rfl)⟩⟩ rfl rfl hsz rfl (lv_room hrm) hdg ⟨by omega, by omega⟩) ?_
  intro r he
  subst he
  rw [hL'.2.2 _ hlt]
  exact kq
end LR
