theorem mx_1442 : (Cond.selects "[Ljava/lang/Object;" ⟨"java/lang/Object", "getClass", "()Ljava/lang/Class;"⟩ ⟨"java/lang/Object", "getClass", "()Ljava/lang/Class;"⟩) ∈ wsL := List.mem_filter.mpr ⟨List.mem_of_getElem? (i := 1442) (by decide +kernel), by decide +kernel⟩
theorem mx_255 : (Cond.methodLink RJ8 194 Lib.Math.max.name) ∈ wsL := List.mem_filter.mpr ⟨List.mem_of_getElem? (i := 255) (by decide +kernel), by decide +kernel⟩
theorem mx_265 : (Cond.methodLink RJ7 86 ⟨"java/lang/Object", "getClass", "()Ljava/lang/Class;"⟩) ∈ wsL := List.mem_filter.mpr ⟨List.mem_of_getElem? (i := 265) (by decide +kernel), by decide +kernel⟩
theorem mx_266 : (Cond.instanceMethod ⟨"java/lang/Object", "getClass", "()Ljava/lang/Class;"⟩) ∈ wsL := List.mem_filter.mpr ⟨List.mem_of_getElem? (i := 266) (by decide +kernel), by decide +kernel⟩
theorem mx_282 : (Cond.native ⟨"java/lang/Object", "getClass", "()Ljava/lang/Class;"⟩) ∈ wsL := List.mem_filter.mpr ⟨List.mem_of_getElem? (i := 282) (by decide +kernel), by decide +kernel⟩
theorem mx_289 : (Cond.methodLink RJ7 304 Lib.Math.min.name) ∈ wsL := List.mem_filter.mpr ⟨List.mem_of_getElem? (i := 289) (by decide +kernel), by decide +kernel⟩
theorem mx_292 : (Cond.methodLink RJ7 150 arraycopyName) ∈ wsL := List.mem_filter.mpr ⟨List.mem_of_getElem? (i := 292) (by decide +kernel), by decide +kernel⟩
theorem mx_293 : (Cond.static arraycopyName) ∈ wsL := List.mem_filter.mpr ⟨List.mem_of_getElem? (i := 293) (by decide +kernel), by decide +kernel⟩
theorem mx_294 : (Cond.native arraycopyName) ∈ wsL := List.mem_filter.mpr ⟨List.mem_of_getElem? (i := 294) (by decide +kernel), by decide +kernel⟩
def fJ_newLength (a1 : Int32) (a2 : Int32) (a3 : Int32) : Option Int32 :=
  if (a1 + (if a2 < a3 then a3 else a2)) ≤ (0 : Int32) then
  none
  else
  if (2147483639 : Int32) < (a1 + (if a2 < a3 then a3 else a2)) then
  none
  else
  some ((a1 + (if a2 < a3 then a3 else a2)))
set_option maxRecDepth 100000 in
set_option maxHeartbeats 4000000 in
theorem cJ_newLength (l : Launch) {a1 : Int32} {a2 : Int32} {a3 : Int32} {o : Int32} (hF : fJ_newLength a1 a2 a3 = some o) : Ms l yJ8_newLength_cabcc cJ8_newLength_cabcc 4 .int { frames := 1, cells := 0, slots := 0, locals := 21 } [.int a1, .int a2, .int a3] o := by
  refine Ms.of (own := RJ8) rfl (by decide +kernel) (Nat.le_of_ble_eq_true rfl) ?_
  intro p e s m args below meth c ls S hr hlk hl
  have hl : lv_has ls 4 [(0, .int a1), (1, .int a2), (2, .int a3)] := hl
  rw [fJ_newLength] at hF
  refine lv_iload_n S.1 S.2.1 dJ8_newLength_cabcc_0 rfl (lv_at hl 0 rfl) ?_
  refine lv_iload_n S.1 S.2.1 dJ8_newLength_cabcc_1 rfl (lv_at hl 1 rfl) ?_
  refine lv_iload_n S.1 S.2.1 dJ8_newLength_cabcc_2 rfl (lv_at hl 2 rfl) ?_
  refine va_mmax S.1 S.2.1 (S.2.2.1.trans hl.1.symm) S.2.2.2.1 (S.2.2.2.2 _ mx_255) (S.2.2.2.2 _ mx_256) (S.2.2.2.2 _ m_134) (S.2.2.2.2 _ mx_257) (Nat.le_of_ble_eq_true rfl) (Nat.le_of_ble_eq_true rfl) (Nat.le_of_ble_eq_true rfl) (Nat.le_of_ble_eq_true rfl) dJ8_newLength_cabcc_3 ?_
  refine lv_iadd S.1 S.2.1 dJ8_newLength_cabcc_6 ?_
  refine lv_istore_n (lv' := [(3, .int ((a1 + (if a2 < a3 then a3 else a2)))), (0, .int a1), (1, .int a2), (2, .int a3)]) S.1 S.2.1 dJ8_newLength_cabcc_7 rfl hl (by decide) rfl (fun ls hl => ?_)
  refine lv_iconst (v := (0 : Int32)) S.1 S.2.1 dJ8_newLength_cabcc_8 (by decide) ?_
  refine lv_iload_n S.1 S.2.1 dJ8_newLength_cabcc_9 rfl (lv_at hl 0 rfl) ?_
  refine lv_icmp_ge (tgt := 21) S.1 S.2.1 dJ8_newLength_cabcc_10 (by decide) (fun hc => ?_) (fun hc => ?_)
  · have hF := it_pos hc hF
    cases hF
  · have hF := it_neg hc hF
    refine lv_iload_n S.1 S.2.1 dJ8_newLength_cabcc_13 rfl (lv_at hl 0 rfl) ?_
    refine lv_ldc (v := (2147483639 : Int32)) S.1 S.2.1 S.2.2.2.1 (S.2.2.2.2 _ m_142) dJ8_newLength_cabcc_14 ?_
    refine lv_icmp_gt (tgt := 21) S.1 S.2.1 dJ8_newLength_cabcc_16 (by decide) (fun hc => ?_) (fun hc => ?_)
    · have hF := it_pos hc hF
      cases hF
    · have hF := it_neg hc hF
      refine lv_iload_n S.1 S.2.1 dJ8_newLength_cabcc_19 rfl (lv_at hl 0 rfl) ?_
      obtain rfl := Option.some.inj hF
      exact rs_i S hr hlk rfl rfl dJ8_newLength_cabcc_20
def GW (D : va_G) (tys : List (ClassId × FieldType)) (A : Nat → Prop) (kk : Nat → Nat) (ws : va_W) (U : State) : Prop := va_P D vwCl ws U.heap ∧ va_D A ws ∧ va_K D vwCl tys U ∧ KC A kk U ∧ NW U ∧ ∀ q, U.heap.size ≤ q → A q
theorem GW.same {D : va_G} {tys : List (ClassId × FieldType)} {A : Nat → Prop} {kk : Nat → Nat} {ws : va_W} {U : State} (h : GW D tys A kk ws U) {g : JFrame} {mk : MethodId} {a : Array Value} : GW D tys A kk ws (U.calling g mk a) := ⟨h.1, h.2.1, va_K.moved (u := U) (U := U.calling g mk a) (Vm.Alike.refl U.vm) h.2.2.1, h.2.2.2.1.same, h.2.2.2.2.1.same, h.2.2.2.2.2⟩
theorem GW.of {D : va_G} {tys : List (ClassId × FieldType)} {A : Nat → Prop} {kk : Nat → Nat} {ws : va_W} {s t : State} {H : Heap} {locs : List Loc} (hP : va_P D vwCl ws H) (hD : va_D A ws) (hK : va_K D vwCl tys s) (hC : KC A kk s) (hN : NW s) (hA : ∀ q, s.heap.size ≤ q → A q) (hS : va_S A s.heap H locs) (ht : t.heap = H) (hv : s.WarmedH t.vm) : GW D tys A kk ws t :=
  ⟨by rw [ht]; exact hP, hD, va_K.moved hv.alike hK, hC.kept hS ht hv, hN.warm hv, fun q hq => hA q (by rw [ht] at hq; exact Nat.le_trans hS.1 hq)⟩
/-- answers a new reference, at which B says what the world is -/
def Mr (l : Launch) (y : MethodName) (b : ByteArray) (n : Nat) (rt : FieldType) (rm : Room) (As : List Value) (P : State → Prop) (B : Nat → State → Prop) (A : Nat → Prop) : Prop := Met l y (Cond.code y b n (some rt) :: wsL) rm (va_Pc As P) (va_Qr (fun (_ : Unit) => True) (fun _ a t => B a t) A) rm.cells rm.slots A
theorem Mr.of {l : Launch} {y : MethodName} {b : ByteArray} {n : Nat} {rt : FieldType} {rm : Room} {As : List Value} {P : State → Prop} {B : Nat → State → Prop} {A : Nat → Prop} {own : String} (ho : y.cls = own) (hy : plainName y.cls = true) (hAs : (lg_sl As).length ≤ n)
    (body : ∀ (p : Program) (e : Env) (s : State) (m : MethodId) (args : Array Value) (below : List Frame) (meth : Method) (c : Code) (ls : Array Slot), CallFix p m c b n s args wsL own → meth.sig.returnType = some rt → meth.locks = false → P s → lv_has ls n (lv_args 0 As) → W p l e rm s m args below meth c s.heap [] 0 0 (MQ below (va_Qr (fun (_ : Unit) => True) (fun _ a t => B a t) A) args s rm.cells rm.slots A) (F0 m 0 ls [])) : Mr l y b n rt rm As P B A := by
  subst ho
  refine Met.ofW (cc := b) (maxL := n) (ret := some rt) hy rfl ?_
  intro p e s m args below meth c s₁ B hml hv
  obtain ⟨rfl, hP⟩ := hv
  have hts := atoms_spec (ws := Cond.code y b n (some rt) :: wsL) B.pre
  rw [lg_entry_eq]
  exact body p e s m _ below meth c _ ⟨B.exec, B.bytes, hml, findClass_of_methodNamed B.named, fun w h => hts w (List.mem_cons_of_mem _ h)⟩ B.returns B.notSynchronized hP (lv_entry As hAs)
/-- an element of a row of objects: an object of the world, of a class that may stand there -/
def Elm (ws : va_W) (y : Nat) : Prop := ∃ (kq ci : Nat) (fs : List Value) (r : vw_C), ws[kq]? = some (y, .inr (ci, fs)) ∧ vwCl[ci]? = some r ∧ Cond.castable r.1 "java/lang/Object" ∈ nwl
theorem asg_of {s : State} {C E : String} (h : va_Nw (.castable C E) s) : ∀ comp c0 : ClassId, s.vm.findClass E = some comp → s.vm.findClass C = some c0 → s.vm.assignable c0 comp = true := by
  intro comp c0 h1 h2
  obtain ⟨c3, c4, hc3, hc4, ha⟩ := Cond.castable_spec h
  rw [h2] at hc3
  rw [h1] at hc4
  cases hc3
  cases hc4
  exact ha
theorem Elm.any {D : va_G} {tys : List (ClassId × FieldType)} {ws : va_W} {y : Nat} {s : State} {H : Heap} (h : Elm ws y) (hK : va_K D vwCl tys s) (hP : va_P D vwCl ws H) (hN : NW s) : va_Any "java/lang/Object" s H y := by
  obtain ⟨kq, ci, fs, r, h1, h2, h3⟩ := h
  exact va_rAny hK hP h1 h2 (asg_of (hN _ h3))
theorem arr_recv {D : va_G} {tys : List (ClassId × FieldType)} {ws : va_W} {a k0 t0 : Nat} {cO : ClassId} {x : vp_A} {s : State} {H : Heap} (hK : va_K D vwCl tys s) (hP : va_P D vwCl ws H) (h0 : ws[k0]? = some (a, .inl (cO, x))) (ht : tys[t0]? = some (cO, .object "java/lang/Object")) : ∃ cell : Cell, H[a]? = some cell ∧ cell.vm.isStatics = false ∧ s.vm.findClass "[Ljava/lang/Object;" = some cell.cls := by
  have h1 : H[a]? = some (vp_cell cO x) := hP k0 _ h0
  obtain ⟨kA, comp, -, -, -, hf⟩ := (hK.2 t0 _ ht).2
  refine ⟨_, h1, ?_, ?_⟩
  · obtain ⟨n, f⟩ := x
    rcases f with f | f | f | f | f <;> rfl
  · rw [show "[Ljava/lang/Object;" = "[" ++ (FieldType.object "java/lang/Object").toString from rfl, hf]
    obtain ⟨n, f⟩ := x
    rcases f with f | f | f | f | f <;> rfl
theorem cls_one {D : va_G} {tys tys' : List (ClassId × FieldType)} {t0 t1 : Nat} {c0 c1 : ClassId} {s : State} (hK : va_K D vwCl tys s) (hK1 : va_K D vwCl tys' s) (h0 : tys[t0]? = some (c0, .object "java/lang/Object")) (h1 : tys'[t1]? = some (c1, .object "java/lang/Object")) : c1 = c0 := by
  obtain ⟨kA, comp, -, -, -, hf⟩ := (hK.2 t0 _ h0).2
  obtain ⟨kB, comp', -, -, -, hg⟩ := (hK1.2 t1 _ h1).2
  rw [hf] at hg
  exact (Option.some.inj hg).symm
theorem set_last {α : Type} (ws : List α) (a b : α) : (ws ++ [a]).set ws.length b = ws ++ [b] := by simp
theorem at_last {α : Type} (ws : List α) (a : α) : (ws ++ [a])[ws.length]? = some a := by simp
set_option maxRecDepth 100000 in
set_option maxHeartbeats 4000000 in
theorem cG_copyOf3 (l : Launch) (D : va_G) (tys : List (ClassId × FieldType)) (A : Nat → Prop) (kk : Nat → Nat) (ws : va_W) {k0 t0 da n N : Nat} {cO : ClassId} {row : Nat → Option Nat} (hN2 : N ≤ 100000) (hn : n ≤ N) (h0 : ws[k0]? = some (da, .inl (cO, n, .inr (.inr (.inr (.inr row)))))) (ht : tys[t0]? = some (cO, .object "java/lang/Object")) (hel : ∀ i, i < n → ∀ y, row i = some y → Elm ws y) :
    Mr l yJ7_copyOf_6403c cJ7_copyOf_6403c 4 (.array (.object "java/lang/Object")) { frames := 1, cells := 1, slots := N, locals := 60 } [.ref da, .int (nI N), .ref (kk 42)] (GW D tys A kk ws) (fun a t => GW D tys A kk (ws ++ [(a, .inl (cO, N, .inr (.inr (.inr (.inr (va_cpy row (fun _ => none) 0 0 n))))))]) t) A := by
  refine Mr.of (own := RJ7) rfl (by decide +kernel) (Nat.le_of_ble_eq_true rfl) ?_
  intro p e s m args below meth c ls S hr hlk hG hl
  obtain ⟨hP, hD, hK, hC, hN, hA⟩ := hG
  have hS : va_S A s.heap s.heap [] := va_S.rf
  have hl : lv_has ls 4 [(0, .ref da), (1, .int (nI N)), (2, .ref (kk 42))] := hl
  refine lv_aload_n S.1 S.2.1 dJ7_copyOf_6403c_0 rfl (lv_at hl 2 rfl) ?_
  refine va_ldcM S.1 S.2.1 S.2.2.2.1 (S.2.2.2.2 _ m_156) hC.2.2.2.2.2.2.2.2.1 dJ7_copyOf_6403c_1 ?_
  refine lv_acmp_ne (rx := some (kk 42)) (ry := some (kk 42)) (tgt := 13) S.1 S.2.1 dJ7_copyOf_6403c_3 (by decide) (fun h => absurd rfl h) (fun _ => ?_)
  refine lv_iload_n S.1 S.2.1 dJ7_copyOf_6403c_6 rfl (lv_at hl 1 rfl) ?_
  refine va_newq (N' := N) S.1 S.2.1 S.2.2.2.1 (S.2.2.2.2 _ m_157) hC.2.2.2.2.2.2.2.2.2.1 hK hP hD hS hA (nI_pos (by omega)) (nI_clamp (by omega)) (by omega) (Nat.le_refl 1) (by show 0 + N ≤ N; omega) dJ7_copyOf_6403c_7 (fun q cB H hK1 hP hD hS => ?_)
  obtain rfl : cB = cO := cls_one hK hK1 ht (at_last tys _)
  refine lv_goto (tgt := 24) S.1 S.2.1 dJ7_copyOf_6403c_10 (by decide) ?_
  refine lv_astore_n (lv' := [(3, .ref q), (0, .ref da), (1, .int (nI N)), (2, .ref (kk 42))]) S.1 S.2.1 dJ7_copyOf_6403c_24 rfl hl (by decide) rfl (fun ls hl => ?_)
  refine lv_aload_n S.1 S.2.1 dJ7_copyOf_6403c_25 rfl (lv_at hl 1 rfl) ?_
  refine lv_iconst (v := 0) S.1 S.2.1 dJ7_copyOf_6403c_26 (by decide) ?_
  refine lv_aload_n S.1 S.2.1 dJ7_copyOf_6403c_27 rfl (lv_at hl 0 rfl) ?_
  refine lv_iconst (v := 0) S.1 S.2.1 dJ7_copyOf_6403c_28 (by decide) ?_
  refine lv_aload_n S.1 S.2.1 dJ7_copyOf_6403c_29 rfl (lv_at hl 1 rfl) ?_
  refine va_alen (v := nI n) S.1 S.2.1 hK hP k0 t0 (app_atL h0) ht rfl dJ7_copyOf_6403c_30 ?_
  refine lv_iload_n S.1 S.2.1 dJ7_copyOf_6403c_31 rfl (lv_at hl 2 rfl) ?_
  refine va_mmin S.1 S.2.1 (S.2.2.1.trans hl.1.symm) S.2.2.2.1 (S.2.2.2.2 _ mx_289) (S.2.2.2.2 _ mx_290) (S.2.2.2.2 _ m_134) (S.2.2.2.2 _ mx_291) (Nat.le_refl 1) (Nat.le_of_ble_eq_true rfl) (Nat.le_refl 1) (by show 0 + N ≤ N; omega) dJ7_copyOf_6403c_32 ?_
  rw [if_neg (nI_nlt hn (by omega))]
  refine va_copyM S.1 S.2.1 (S.2.2.1.trans hl.1.symm) S.2.2.2.1 (S.2.2.2.2 _ mx_292) (S.2.2.2.2 _ mx_294) (S.2.2.2.2 _ mx_293) (S.2.2.2.2 _ m_164) hK hP hD hS k0 ws.length t0 t0 (app_atL h0) (at_last ws _) ht ht (by decide) (by decide) (nI_pos (by omega)) (by rw [nI_clamp (by omega)]; simp) (by rw [nI_clamp (by omega)]; simpa using hn) (fun i hi y hy => ?_) (Nat.le_refl 1) (Nat.le_of_ble_eq_true rfl) dJ7_copyOf_6403c_35 (fun H locs hP hD hS => ?_)
  · rw [nI_clamp (by omega)] at hi
    have hy : row i = some y := by simpa using hy
    obtain ⟨kq, ci, fs, r, e1, e2, e3⟩ := hel i hi y hy
    exact Elm.any ⟨kq, ci, fs, r, app_atL e1, e2, e3⟩ hK hP hN
  rw [set_last, nI_clamp (by omega)] at hP hD
  refine lv_aload_n S.1 S.2.1 dJ7_copyOf_6403c_38 rfl (lv_at hl 0 rfl) ?_
  refine W.cs (cells' := 1) (slots' := N) rfl (by omega) ?_
  exact W.aret S.1 S.2.1 hr (Or.inr ⟨_, rfl⟩) (Or.inr ⟨q, rfl⟩) (fun t ht hw => ⟨⟨(), q, rfl, trivial, GW.of hP hD hK hC hN hA hS ht hw⟩, hS.F ht⟩) hS.2.2 dJ7_copyOf_6403c_39 hlk
set_option maxRecDepth 100000 in
set_option maxHeartbeats 4000000 in
theorem cG_copyOf2 (l : Launch) (D : va_G) (tys : List (ClassId × FieldType)) (A : Nat → Prop) (kk : Nat → Nat) (ws : va_W) {k0 t0 da n N : Nat} {cO : ClassId} {row : Nat → Option Nat} (hN2 : N ≤ 100000) (hn : n ≤ N) (h0 : ws[k0]? = some (da, .inl (cO, n, .inr (.inr (.inr (.inr row)))))) (ht : tys[t0]? = some (cO, .object "java/lang/Object")) (hel : ∀ i, i < n → ∀ y, row i = some y → Elm ws y) :
    Mr l yJ7_copyOf_1904c cJ7_copyOf_1904c 2 (.array (.object "java/lang/Object")) { frames := 2, cells := 1, slots := N, locals := 83 } [.ref da, .int (nI N)] (GW D tys A kk ws) (fun a t => GW D tys A kk (ws ++ [(a, .inl (cO, N, .inr (.inr (.inr (.inr (va_cpy row (fun _ => none) 0 0 n))))))]) t) A := by
  refine Mr.of (own := RJ7) rfl (by decide +kernel) (Nat.le_of_ble_eq_true rfl) ?_
  intro p e s m args below meth c ls S hr hlk hG hl
  obtain ⟨hP, hD, hK, hC, hN, hA⟩ := id hG
  have hS : va_S A s.heap s.heap [] := va_S.rf
  have hl : lv_has ls 2 [(0, .ref da), (1, .int (nI N))] := hl
  refine lv_aload_n S.1 S.2.1 dJ7_copyOf_1904c_0 rfl (lv_at hl 0 rfl) ?_
  refine lv_iload_n S.1 S.2.1 dJ7_copyOf_1904c_1 rfl (lv_at hl 1 rfl) ?_
  refine lv_aload_n S.1 S.2.1 dJ7_copyOf_1904c_2 rfl (lv_at hl 0 rfl) ?_
  refine va_getC (C := "[Ljava/lang/Object;") (mi := kk 42) S.1 S.2.1 (S.2.2.1.trans hl.1.symm) S.2.2.2.1 (S.2.2.2.2 _ mx_265) (hN.use nw_87) (S.2.2.2.2 _ mx_1442) (S.2.2.2.2 _ mx_266) (S.2.2.2.2 _ mx_282) hC.2.2.2.2.2.2.2.2.1 (arr_recv hK hP h0 ht) (Nat.le_of_ble_eq_true rfl) (Nat.le_of_ble_eq_true rfl) dJ7_copyOf_1904c_3 ?_
  refine va_callr (va_runS (As := [.ref da, .int (nI N), .ref (kk 42)]) (rest := []) (n := 3) S (cG_copyOf3 l D tys A kk ws hN2 hn h0 ht hel) (va_cwS 3 S.2.2.2.2 (gd_S m_153 m_154 m_86 m_155) rfl rfl rfl (by decide +kernel) ⟨Nat.le_of_ble_eq_true rfl, Nat.le_of_ble_eq_true rfl⟩) ⟨fun a U g mk q => ⟨q.1, q.2.same⟩, fun U hU hw => ⟨rfl, GW.of hP hD hK hC hN hA hS hU hw⟩⟩ rfl rfl hl.1 rfl (lv_room (Nat.le_of_ble_eq_true rfl)) dJ7_copyOf_1904c_6 ⟨Nat.le_refl 1, by show 0 + N ≤ N; omega⟩) hS (fun q _ h => h) (fun _ h => h) ?_
  intro u q t H1 locs1 ht1 hvm _ hB _ _ hS1
  refine W.cs (cells' := 1) (slots' := N) rfl (by show 0 + N = N; omega) ?_
  exact W.aret S.1 S.2.1 hr (Or.inr ⟨_, rfl⟩) (Or.inr ⟨q, rfl⟩) (fun t2 ht2 hw => ⟨⟨(), q, rfl, trivial, GW.of (by rw [← ht1]; exact hB.1) hB.2.1 hK hC hN hA hS1 ht2 hw⟩, hS1.F ht2⟩) hS1.2.2 dJ7_copyOf_1904c_9 hlk

