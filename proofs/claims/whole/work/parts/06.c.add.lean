theorem Mg.of {l : Launch} {y : MethodName} {b : ByteArray} {n mc ms : Nat} {ret : Option FieldType} {rm : Room} {As : List Value} {P : State → Prop} {Qc : Array Value → State → Outcome → State → Prop} {A : Nat → Prop} {own : String} (ho : y.cls = own) (hy : plainName y.cls = true) (hAs : (lg_sl As).length ≤ n)
    (body : ∀ (p : Program) (e : Env) (s : State) (m : MethodId) (args : Array Value) (below : List Frame) (meth : Method) (c : Code) (ls : Array Slot), CallFix p m c b n s args wsL own → meth.sig.returnType = ret → meth.locks = false → P s → lv_has ls n (lv_args 0 As) → W p l e rm s m args below meth c s.heap [] 0 0 (MQ below Qc args s mc ms A) (F0 m 0 ls [])) : Met l y (Cond.code y b n ret :: wsL) rm (va_Pc As P) Qc mc ms A := by
  subst ho
  refine Met.ofW (cc := b) (maxL := n) (ret := ret) hy rfl ?_
  intro p e s m args below meth c s₁ B hml hv
  obtain ⟨rfl, hP⟩ := hv
  have hts := atoms_spec (ws := Cond.code y b n ret :: wsL) B.pre
  rw [lg_entry_eq]
  exact body p e s m _ below meth c _ ⟨B.exec, B.bytes, hml, findClass_of_methodNamed B.named, fun w h => hts w (List.mem_cons_of_mem _ h)⟩ B.returns B.notSynchronized hP (lv_entry As hAs)
set_option maxRecDepth 100000 in
set_option maxHeartbeats 4000000 in
/-- add(e, data, s) with room left -/
theorem cG_add3N (l : Launch) (D : va_G) (tys : List (ClassId × FieldType)) (A : Nat → Prop) (kk : Nat → Nat) (ws : va_W) {k0 kd kx t0 q x da n cap ci : Nat} {mc : Int32} {cO : ClassId} {row : Nat → Option Nat} {vs : List Value} {r : vw_C} (hk : ws[k0]? = some (q, .inr (0, [.int mc, .ref da, .int (nI n)]))) (hd : ws[kd]? = some (da, .inl (cO, cap, .inr (.inr (.inr (.inr row)))))) (hx : ws[kx]? = some (x, .inr (ci, vs))) (hci : vwCl[ci]? = some r) (hca : Cond.castable r.1 "java/lang/Object" ∈ nwl) (ht : tys[t0]? = some (cO, .object "java/lang/Object")) (hn : n < cap) (hc1 : cap ≤ 50000) :
    Met l yJx4a65c_add_72be8 (Cond.code yJx4a65c_add_72be8 cJx4a65c_add_72be8 4 none :: wsL) { frames := 5, cells := 0, slots := 0, locals := 147 } (va_Pc [.ref q, .ref x, .ref da, .int (nI n)] (GW D tys A kk ws)) (va_Qv (fun (_ : Nat) => True) (fun _ t => GW D tys A kk ((ws.set kd (da, .inl (cO, cap, .inr (.inr (.inr (.inr (va_up row n (some x)))))))).set k0 (q, .inr (0, [.int mc, .ref da, .int (nI (n + 1))]))) t) A) 0 0 A := by
  have hne : kd ≠ k0 := fun e => by rw [e, hk] at hd; cases hd
  refine Mg.of (own := RJx4a65c) rfl (by decide +kernel) (Nat.le_of_ble_eq_true rfl) ?_
  intro p e s m args below meth c ls S hr hlk hG hl
  obtain ⟨hP, hD, hK, hC, hN, hA⟩ := hG
  have hS : va_S A s.heap s.heap [] := va_S.rf
  have hl : lv_has ls 4 [(0, .ref q), (1, .ref x), (2, .ref da), (3, .int (nI n))] := hl
  refine lv_iload_n S.1 S.2.1 dJx4a65c_add_72be8_0 rfl (lv_at hl 3 rfl) ?_
  refine lv_aload_n S.1 S.2.1 dJx4a65c_add_72be8_1 rfl (lv_at hl 2 rfl) ?_
  refine va_alen (v := nI cap) S.1 S.2.1 hK hP kd t0 hd ht rfl dJx4a65c_add_72be8_2 ?_
  refine lv_icmp_ne (tgt := 11) S.1 S.2.1 dJx4a65c_add_72be8_3 (by decide) (fun _ => ?_) (fun h => absurd ((nI_eq (by omega) (by omega)).mp h) (by omega))
  refine lv_aload_n S.1 S.2.1 dJx4a65c_add_72be8_11 rfl (lv_at hl 2 rfl) ?_
  refine lv_iload_n S.1 S.2.1 dJx4a65c_add_72be8_12 rfl (lv_at hl 3 rfl) ?_
  refine lv_aload_n S.1 S.2.1 dJx4a65c_add_72be8_13 rfl (lv_at hl 1 rfl) ?_
  refine va_astqO S.1 S.2.1 hK hP hD hS kd t0 kx ci hd ht (hN _ hca) hx hci (vp_in_nI hn (by omega)) dJx4a65c_add_72be8_14 (fun H locs hP hD hS => ?_)
  rw [nI_clamp (by omega)] at hP hD
  refine lv_aload_n S.1 S.2.1 dJx4a65c_add_72be8_15 rfl (lv_at hl 0 rfl) ?_
  refine lv_iload_n S.1 S.2.1 dJx4a65c_add_72be8_16 rfl (lv_at hl 3 rfl) ?_
  refine lv_iconst (v := 1) S.1 S.2.1 dJx4a65c_add_72be8_17 (by decide) ?_
  refine lv_iadd S.1 S.2.1 dJx4a65c_add_72be8_18 ?_
  rw [nI_1]
  refine va_put (D := D) (ci := 0) (v := .int (nI (n + 1))) (ty := .int) (C := RJx4a65c) (T := TJx4a65c) (N := 3) S.1 S.2.1 S.2.2.2.2 inJx4a65c tyJx4a65c tyJx4a65c_ok nmJx4a65c S.2.2.2.1 hK hP hD hS k0 ((List.getElem?_set_ne hne).trans hk) rfl 2 (by decide) (S.2.2.2.2 _ m_119) (fun _ h => h) rfl (by decide +kernel) rfl rfl (Nat.le_of_ble_eq_true rfl) dJx4a65c_add_72be8_19 (fun H locs hP hD hS => ?_)
  exact W.vret S.1 S.2.1 hr (fun t ht hw => ⟨⟨0, rfl, trivial, GW.of hP hD hK hC hN hA hS ht hw⟩, hS.F ht⟩) hS.2.2 dJx4a65c_add_72be8_22 hlk
set_option maxRecDepth 100000 in
set_option maxHeartbeats 4000000 in
/-- add(e, data, s) of a full list, out of grow() -/
theorem cG_add3G (l : Launch) (D : va_G) (tys : List (ClassId × FieldType)) (A : Nat → Prop) (kk : Nat → Nat) (ws : va_W) {k0 kx t0 q x da n N ci : Nat} {mc : Int32} {cO : ClassId} {row : Nat → Option Nat} {vs : List Value} {r : vw_C} (hk : ws[k0]? = some (q, .inr (0, [.int mc, .ref da, .int (nI n)]))) (hx : ws[kx]? = some (x, .inr (ci, vs))) (hne : kx ≠ k0) (hci : vwCl[ci]? = some r) (hca : Cond.castable r.1 "java/lang/Object" ∈ nwl) (ht : tys[t0]? = some (cO, .object "java/lang/Object")) (hn : n < N) (hN2 : N ≤ 100000)
    (hlen : (∃ (row0 : Nat → Option Nat) (kd t1 : Nat), ws[kd]? = some (da, .inl (cO, n, .inr (.inr (.inr (.inr row0))))) ∧ tys[t1]? = some (cO, .object "java/lang/Object")) ∨ (da = kk 41 ∧ n = 0))
    (hM : Mr l yJx4a65c_grow_d5877 cJx4a65c_grow_d5877 1 (.array (.object "java/lang/Object")) { frames := 4, cells := 1, slots := N, locals := 127 } [.ref q] (GW D tys A kk ws) (fun a t => GW D tys A kk (ws.set k0 (q, .inr (0, [.int mc, .ref a, .int (nI n)])) ++ [(a, .inl (cO, N, .inr (.inr (.inr (.inr row)))))]) t) A) :
    Met l yJx4a65c_add_72be8 (Cond.code yJx4a65c_add_72be8 cJx4a65c_add_72be8 4 none :: wsL) { frames := 5, cells := 1, slots := N, locals := 147 } (va_Pc [.ref q, .ref x, .ref da, .int (nI n)] (GW D tys A kk ws)) (va_Qv (fun (_ : Nat) => True) (fun a t => GW D tys A kk (ws.set k0 (q, .inr (0, [.int mc, .ref a, .int (nI (n + 1))])) ++ [(a, .inl (cO, N, .inr (.inr (.inr (.inr (va_up row n (some x)))))))]) t) A) 1 N A := by
  refine Met.ofW (cc := cJx4a65c_add_72be8) (maxL := 4) (ret := none) (by decide +kernel) rfl ?_
  intro p e s m args below meth c s₁ Bd hml hv
  obtain ⟨rfl, hG⟩ := hv
  have hts := atoms_spec (ws := Cond.code yJx4a65c_add_72be8 cJx4a65c_add_72be8 4 none :: wsL) Bd.pre
  have S : CallFix p m c cJx4a65c_add_72be8 4 s [Value.ref q, .ref x, .ref da, .int (nI n)].toArray wsL RJx4a65c := ⟨Bd.exec, Bd.bytes, hml, findClass_of_methodNamed Bd.named, fun w h => hts w (List.mem_cons_of_mem _ h)⟩
  have hr := Bd.returns
  have hlk := Bd.notSynchronized
  rw [lg_entry_eq]
  have hl := lv_entry [Value.ref q, .ref x, .ref da, .int (nI n)] (n := 4) (Nat.le_of_ble_eq_true rfl)
  generalize (lg_sl ([Value.ref q, .ref x, .ref da, .int (nI n)]) ++ List.replicate (4 - (lg_sl ([Value.ref q, .ref x, .ref da, .int (nI n)])).length) Slot.unset).toArray = ls at hl ⊢
  have hl : lv_has ls 4 [(0, .ref q), (1, .ref x), (2, .ref da), (3, .int (nI n))] := hl
  obtain ⟨hP, hD, hK, hC, hN, hA⟩ := hG
  have hS : va_S A s.heap s.heap [] := va_S.rf
  refine lv_iload_n S.1 S.2.1 dJx4a65c_add_72be8_0 rfl (lv_at hl 3 rfl) ?_
  refine lv_aload_n S.1 S.2.1 dJx4a65c_add_72be8_1 rfl (lv_at hl 2 rfl) ?_
  have step : ∀ (k : W p l e { frames := 5, cells := 1, slots := N, locals := 147 } s m [Value.ref q, .ref x, .ref da, .int (nI n)].toArray below meth c s.heap [] 0 0 (MQ below (va_Qv (fun (_ : Nat) => True) (fun a t => GW D tys A kk (ws.set k0 (q, .inr (0, [.int mc, .ref a, .int (nI (n + 1))])) ++ [(a, .inl (cO, N, .inr (.inr (.inr (.inr (va_up row n (some x)))))))]) t) A) [Value.ref q, .ref x, .ref da, .int (nI n)].toArray s 1 N A) (F0 m (2 + 1) ls [.int (nI n), .int (nI n)])), W p l e { frames := 5, cells := 1, slots := N, locals := 147 } s m [Value.ref q, .ref x, .ref da, .int (nI n)].toArray below meth c s.heap [] 0 0 (MQ below (va_Qv (fun (_ : Nat) => True) (fun a t => GW D tys A kk (ws.set k0 (q, .inr (0, [.int mc, .ref a, .int (nI (n + 1))])) ++ [(a, .inl (cO, N, .inr (.inr (.inr (.inr (va_up row n (some x)))))))]) t) A) [Value.ref q, .ref x, .ref da, .int (nI n)].toArray s 1 N A) (F0 m 2 ls [.ref da, .int (nI n)]) := by
    intro k
    rcases hlen with ⟨row0, kd, t1, hd, ht1⟩ | ⟨rfl, rfl⟩
    · exact va_alen (v := nI n) S.1 S.2.1 hK hP kd t1 hd ht1 rfl dJx4a65c_add_72be8_2 k
    · exact va_tlen (v := nI 0) S.1 S.2.1 hC.2.2.2.2.2.2.1 hS rfl dJx4a65c_add_72be8_2 k
  refine step ?_
  refine lv_icmp_ne (tgt := 11) S.1 S.2.1 dJx4a65c_add_72be8_3 (by decide) (fun h => absurd rfl h) (fun _ => ?_)
  refine lv_aload_n S.1 S.2.1 dJx4a65c_add_72be8_6 rfl (lv_at hl 0 rfl) ?_
  refine va_callr (va_runV (As := []) (rest := []) (n := 0) S hM (cwV 0 S.2.2.2.2 (gd_V m_124 m_125 m_126 m_72 m_127) rfl rfl rfl (by decide +kernel) ⟨Nat.le_of_ble_eq_true rfl, Nat.le_of_ble_eq_true rfl⟩) ⟨fun a U g mk q => ⟨q.1, q.2.same⟩, va_recv hK hP (ci := 0) rfl hk, fun U hU hw => ⟨rfl, GW.of hP hD hK hC hN hA hS hU hw⟩⟩ rfl rfl hl.1 rfl (lv_room (Nat.le_of_ble_eq_true rfl)) dJx4a65c_add_72be8_7 ⟨Nat.le_refl 1, by show 0 + N ≤ N; omega⟩) hS (fun q _ h => h) (fun _ h => h) ?_
  intro u a t H1 locs1 ht1 hvm _ hB _ _ hS
  have hP : va_P D vwCl (ws.set k0 (q, .inr (0, [.int mc, .ref a, .int (nI n)])) ++ [(a, .inl (cO, N, .inr (.inr (.inr (.inr row)))))]) H1 := by rw [← ht1]; exact hB.1
  have hD := hB.2.1
  have hk1 : (ws.set k0 (q, .inr (0, [.int mc, .ref a, .int (nI n)])))[k0]? = some (q, .inr (0, [.int mc, .ref a, .int (nI n)])) := List.getElem?_set_self (List.getElem?_eq_some_iff.mp hk).1
  refine lv_astore_n (lv' := [(2, .ref a), (0, .ref q), (1, .ref x), (3, .int (nI n))]) S.1 S.2.1 dJx4a65c_add_72be8_10 rfl hl (by decide) rfl (fun ls hl => ?_)
  refine lv_aload_n S.1 S.2.1 dJx4a65c_add_72be8_11 rfl (lv_at hl 0 rfl) ?_
  refine lv_iload_n S.1 S.2.1 dJx4a65c_add_72be8_12 rfl (lv_at hl 3 rfl) ?_
  refine lv_aload_n S.1 S.2.1 dJx4a65c_add_72be8_13 rfl (lv_at hl 2 rfl) ?_
  refine va_astqO S.1 S.2.1 hK hP hD hS (ws.set k0 (q, .inr (0, [.int mc, .ref a, .int (nI n)]))).length t0 kx ci (at_last _ _) ht (hN _ hca) (app_atL ((List.getElem?_set_ne (Ne.symm hne)).trans hx)) hci (vp_in_nI hn (by omega)) dJx4a65c_add_72be8_14 (fun H locs hP hD hS => ?_)
  rw [nI_clamp (by omega), set_last] at hP hD
  refine lv_aload_n S.1 S.2.1 dJx4a65c_add_72be8_15 rfl (lv_at hl 1 rfl) ?_
  refine lv_iload_n S.1 S.2.1 dJx4a65c_add_72be8_16 rfl (lv_at hl 3 rfl) ?_
  refine lv_iconst (v := 1) S.1 S.2.1 dJx4a65c_add_72be8_17 (by decide) ?_
  refine lv_iadd S.1 S.2.1 dJx4a65c_add_72be8_18 ?_
  rw [nI_1]
  refine va_put (D := D) (ci := 0) (v := .int (nI (n + 1))) (ty := .int) (C := RJx4a65c) (T := TJx4a65c) (N := 3) S.1 S.2.1 S.2.2.2.2 inJx4a65c tyJx4a65c tyJx4a65c_ok nmJx4a65c S.2.2.2.1 hK hP hD hS k0 (app_atL hk1) rfl 2 (by decide) (S.2.2.2.2 _ m_119) (fun _ h => h) rfl (by decide +kernel) rfl rfl (Nat.le_of_ble_eq_true rfl) dJx4a65c_add_72be8_19 (fun H locs hP hD hS => ?_)
  rw [set_app hk1] at hP hD
  rw [List.set_set] at hP hD
  refine W.cs (cells' := 1) (slots' := N) rfl (by show 0 + N = N; omega) ?_
  exact W.vret S.1 S.2.1 hr (fun t ht hw => ⟨⟨a, rfl, trivial, GW.of hP hD hK hC hN hA hS ht hw⟩, hS.F ht⟩) hS.2.2 dJx4a65c_add_72be8_22 hlk
set_option maxRecDepth 100000 in
set_option maxHeartbeats 4000000 in
/-- add(e), out of add(e, data, s) -/
theorem cG_add1 (l : Launch) (D : va_G) (tys : List (ClassId × FieldType)) (A : Nat → Prop) (kk : Nat → Nat) (ws : va_W) {k0 q x da n N cn : Nat} {mc : Int32} {wf : Nat → va_W} (hk : ws[k0]? = some (q, .inr (0, [.int mc, .ref da, .int (nI n)])))
    (hM : Met l yJx4a65c_add_72be8 (Cond.code yJx4a65c_add_72be8 cJx4a65c_add_72be8 4 none :: wsL) { frames := 5, cells := cn, slots := N, locals := 147 } (va_Pc [.ref q, .ref x, .ref da, .int (nI n)] (GW D tys A kk (ws.set k0 (q, .inr (0, [.int (mc + 1), .ref da, .int (nI n)]))))) (va_Qv (fun (_ : Nat) => True) (fun a t => GW D tys A kk (wf a) t) A) cn N A) :
    Met l yJx4a65c_add_9ea2d (Cond.code yJx4a65c_add_9ea2d cJx4a65c_add_9ea2d 2 (some .boolean) :: wsL) { frames := 6, cells := cn, slots := N, locals := 170 } (va_Pc [.ref q, .ref x] (GW D tys A kk ws)) (va_Qi (fun r (_ : Nat) => r = 1) (fun a t => GW D tys A kk (wf a) t) A) cn N A := by
  refine Mg.of (own := RJx4a65c) rfl (by decide +kernel) (Nat.le_of_ble_eq_true rfl) ?_
  intro p e s m args below meth c ls S hr hlk hG hl
  obtain ⟨hP, hD, hK, hC, hN, hA⟩ := hG
  have hS : va_S A s.heap s.heap [] := va_S.rf
  have hl : lv_has ls 2 [(0, .ref q), (1, .ref x)] := hl
  have hk1 : (ws.set k0 (q, .inr (0, [.int (mc + 1), .ref da, .int (nI n)])))[k0]? = some (q, .inr (0, [.int (mc + 1), .ref da, .int (nI n)])) := List.getElem?_set_self (List.getElem?_eq_some_iff.mp hk).1
  refine lv_aload_n S.1 S.2.1 dJx4a65c_add_9ea2d_0 rfl (lv_at hl 0 rfl) ?_
  refine lv_dup S.1 S.2.1 dJx4a65c_add_9ea2d_1 rfl ?_
  refine va_get (D := D) (ci := 0) (v := .int mc) (C := RJx4a65c) (T := TJx4a65c) (N := 3) S.1 S.2.1 S.2.2.2.2 inJx4a65c S.2.2.2.1 hK hP k0 hk rfl 0 (by decide) (S.2.2.2.2 _ m_117) (fun x9 h9 => u_same (S.2.2.2.2 _ m_118) x9 h9) rfl dJx4a65c_add_9ea2d_2 ?_
  refine lv_iconst (v := 1) S.1 S.2.1 dJx4a65c_add_9ea2d_5 (by decide) ?_
  refine lv_iadd S.1 S.2.1 dJx4a65c_add_9ea2d_6 ?_
  refine va_put (D := D) (ci := 0) (v := .int (mc + 1)) (ty := .int) (C := RJx4a65c) (T := TJx4a65c) (N := 3) S.1 S.2.1 S.2.2.2.2 inJx4a65c tyJx4a65c tyJx4a65c_ok nmJx4a65c S.2.2.2.1 hK hP hD hS k0 hk rfl 0 (by decide) (S.2.2.2.2 _ m_117) (fun x9 h9 => u_same (S.2.2.2.2 _ m_118) x9 h9) rfl (by decide +kernel) rfl rfl (Nat.le_of_ble_eq_true rfl) dJx4a65c_add_9ea2d_7 (fun H locs hP hD hS => ?_)
  have hP : va_P D vwCl (ws.set k0 (q, .inr (0, [.int (mc + 1), .ref da, .int (nI n)]))) H := hP
  have hD : va_D A (ws.set k0 (q, .inr (0, [.int (mc + 1), .ref da, .int (nI n)]))) := hD
  refine lv_aload_n S.1 S.2.1 dJx4a65c_add_9ea2d_10 rfl (lv_at hl 0 rfl) ?_
  refine lv_aload_n S.1 S.2.1 dJx4a65c_add_9ea2d_11 rfl (lv_at hl 1 rfl) ?_
  refine lv_aload_n S.1 S.2.1 dJx4a65c_add_9ea2d_12 rfl (lv_at hl 0 rfl) ?_
  refine va_get (D := D) (ci := 0) (v := .ref da) (C := RJx4a65c) (T := TJx4a65c) (N := 3) S.1 S.2.1 S.2.2.2.2 inJx4a65c S.2.2.2.1 hK hP k0 hk1 rfl 1 (by decide) (S.2.2.2.2 _ m_92) (fun _ h => h) rfl dJx4a65c_add_9ea2d_13 ?_
  refine lv_aload_n S.1 S.2.1 dJx4a65c_add_9ea2d_16 rfl (lv_at hl 0 rfl) ?_
  refine va_get (D := D) (ci := 0) (v := .int (nI n)) (C := RJx4a65c) (T := TJx4a65c) (N := 3) S.1 S.2.1 S.2.2.2.2 inJx4a65c S.2.2.2.1 hK hP k0 hk1 rfl 2 (by decide) (S.2.2.2.2 _ m_119) (fun _ h => h) rfl dJx4a65c_add_9ea2d_17 ?_
  refine va_callv (va_runV (As := [.ref x, .ref da, .int (nI n)]) (rest := []) (n := 3) S hM (cwV 3 S.2.2.2.2 (gd_V m_120 m_121 m_122 m_72 m_123) rfl rfl rfl (by decide +kernel) ⟨Nat.le_of_ble_eq_true rfl, Nat.le_of_ble_eq_true rfl⟩) ⟨fun a U g mk q => ⟨q.1, q.2.same⟩, va_recv hK hP (ci := 0) rfl hk1, fun U hU hw => ⟨rfl, GW.of hP hD hK hC hN hA hS hU hw⟩⟩ rfl rfl hl.1 rfl (lv_room (Nat.le_of_ble_eq_true rfl)) dJx4a65c_add_9ea2d_20 ⟨by show 0 + cn ≤ cn; omega, by show 0 + N ≤ N; omega⟩) hS (fun q _ h => h) (fun _ h => h) ?_
  intro a t H1 locs1 ht1 hvm _ hB _ _ hS
  refine lv_iconst (v := 1) S.1 S.2.1 dJx4a65c_add_9ea2d_23 (by decide) ?_
  refine W.cs (cells' := cn) (slots' := N) (by show 0 + cn = cn; omega) (by show 0 + N = N; omega) ?_
  exact W.zret S.1 S.2.1 hr rfl (fun t2 ht2 hw => ⟨⟨1, a, rfl, rfl, GW.of (by rw [← ht1]; exact hB.1) hB.2.1 hK hC hN hA hS ht2 hw⟩, hS.F ht2⟩) hS.2.2 dJx4a65c_add_9ea2d_24 hlk

