
/-! constructors: a world ws, and behind it what was made -/
theorem tl_at (ws L : va_W) (j : Nat) {x : Nat × va_E} (h : L[j]? = some x) : (ws ++ L)[ws.length + j]? = some x := by
  rw [List.getElem?_append_right (Nat.le_add_right _ _), Nat.add_sub_cancel_left]; exact h
theorem tt_at (ws L : List (ClassId × FieldType)) (j : Nat) {x : ClassId × FieldType} (h : L[j]? = some x) : (ws ++ L)[ws.length + j]? = some x := by
  rw [List.getElem?_append_right (Nat.le_add_right _ _), Nat.add_sub_cancel_left]; exact h
theorem tl_set (ws L : va_W) (j : Nat) (x : Nat × va_E) : (ws ++ L).set (ws.length + j) x = ws ++ L.set j x := by
  rw [List.set_append_right _ _ (Nat.le_add_right _ _), Nat.add_sub_cancel_left]
theorem nA (ws L : va_W) (M : va_W) : (ws ++ L) ++ M = ws ++ (L ++ M) := List.append_assoc ..
theorem nP {D : va_G} {ws L M : va_W} {H : Heap} (h : va_P D vwCl ((ws ++ L) ++ M) H) : va_P D vwCl (ws ++ (L ++ M)) H := by rw [← nA]; exact h
theorem nD {A : Nat → Prop} {ws L M : va_W} (h : va_D A ((ws ++ L) ++ M)) : va_D A (ws ++ (L ++ M)) := by rw [← nA]; exact h
theorem nK {D : va_G} {s : State} {ws L M : List (ClassId × FieldType)} (h : va_K D vwCl ((ws ++ L) ++ M) s) : va_K D vwCl (ws ++ (L ++ M)) s := by rw [← List.append_assoc]; exact h
theorem nSP {D : va_G} {ws L : va_W} {j : Nat} {x : Nat × va_E} {H : Heap} (h : va_P D vwCl ((ws ++ L).set (ws.length + j) x) H) : va_P D vwCl (ws ++ L.set j x) H := by rw [← tl_set]; exact h
theorem nSD {A : Nat → Prop} {ws L : va_W} {j : Nat} {x : Nat × va_E} (h : va_D A ((ws ++ L).set (ws.length + j) x)) : va_D A (ws ++ L.set j x) := by rw [← tl_set]; exact h
theorem grow0 {D : va_G} {A : Nat → Prop} {H : Heap} {w1 P Q ws2 : va_W} {q da da' : Nat} {e0 e d : va_E} (hw : w1 = P ++ (q, e0) :: Q) (hD1 : va_D A w1) (hP2 : va_P D vwCl ws2 H) (hD2 : va_D A ws2) (hE : ¬ A da) (hG : Grown w1 ws2 q da e da' d 0) : va_P D vwCl (P ++ ((q, e) :: Q ++ [(da', d)])) H ∧ va_D A (P ++ ((q, e) :: Q ++ [(da', d)])) := by
  subst hw
  refine grow_conv (K := P ++ Q) (dold := []) hD1 hP2 hD2 hG (fun a => ?_) (fun y hy => ?_) (Or.inl ⟨rfl, hE, rfl⟩) (fun y hy => ?_) (fun a => ?_)
  · simp only [adr_app, adr_cons, List.count_append, List.count_cons, List.count_nil]; omega
  · rcases List.mem_append.mp hy with h | h
    · exact List.mem_append_left _ h
    · exact List.mem_append_right _ (List.mem_cons_of_mem _ h)
  · rcases List.mem_append.mp hy with h | h
    · exact Or.inl (List.mem_append_left _ h)
    · rcases List.mem_append.mp h with h | h
      · rcases List.mem_cons.mp h with h | h
        · exact Or.inr (Or.inl h)
        · exact Or.inl (List.mem_append_right _ h)
      · exact Or.inr (Or.inr (List.mem_singleton.mp h))
  · simp only [adr_app, adr_cons, adr_nil, List.count_append, List.count_cons, List.count_nil]; omega
/-- the first n of a row are v -/
def flf (f : Nat → Int32) (n : Nat) (v : Int32) : Nat → Int32 := fun j => if j < n then v else f j
theorem flf_0 (f : Nat → Int32) (v : Int32) : flf f 0 v = f := by funext j; simp [flf]
theorem flf_s (f : Nat → Int32) (n : Nat) (v : Int32) : upd (flf f n v) n v = flf f (n + 1) v := by
  funext j
  unfold upd flf
  by_cases h : j = n
  · subst h; simp
  · by_cases h2 : j < n
    · rw [if_neg h, if_pos h2, if_pos (by omega)]
    · rw [if_neg h, if_neg h2, if_neg (by omega)]
theorem tt_l {tys : List (ClassId × FieldType)} {k : Nat} {x : ClassId × FieldType} (L : List (ClassId × FieldType)) (h : tys[k]? = some x) : (tys ++ L)[k]? = some x := by
  rw [List.getElem?_append_left (List.getElem?_eq_some_iff.mp h).1]; exact h
abbrev UN : Type := (Nat → Nat) × (Nat → ClassId) × (Nat → Option Nat)
def MvN (l : Launch) (y : MethodName) (b : ByteArray) (n : Nat) (rm : Room) (As : List Value) (P : State → Prop) (B : UN → State → Prop) (A : Nat → Prop) : Prop := Met l y (Cond.code y b n none :: wsL) rm (va_Pc As P) (va_Qv (fun (_ : UN) => True) B A) rm.cells rm.slots A
theorem MvN.of {l : Launch} {y : MethodName} {b : ByteArray} {n : Nat} {rm : Room} {As : List Value} {P : State → Prop} {B : UN → State → Prop} {A : Nat → Prop} {own : String} (ho : y.cls = own) (hy : plainName y.cls = true) (hAs : (lg_sl As).length ≤ n)
    (body : ∀ (p : Program) (e : Env) (s : State) (m : MethodId) (args : Array Value) (below : List Frame) (meth : Method) (c : Code) (ls : Array Slot), CallFix p m c b n s args wsL own → meth.sig.returnType = none → meth.locks = false → P s → lv_has ls n (lv_args 0 As) → meth.name = y.name → W p l e rm s m args below meth c s.heap [] 0 0 (MQ below (va_Qv (fun (_ : UN) => True) B A) args s rm.cells rm.slots A) (F0 m 0 ls [])) : MvN l y b n rm As P B A := by
  subst ho
  refine Met.ofW (cc := b) (maxL := n) (ret := none) hy rfl ?_
  intro p e s m args below meth c s₁ B hml hv
  obtain ⟨rfl, hP⟩ := hv
  have hts := atoms_spec (ws := Cond.code y b n none :: wsL) B.pre
  rw [lg_entry_eq]
  exact body p e s m _ below meth c _ ⟨B.exec, B.bytes, hml, findClass_of_methodNamed B.named, fun w h => hts w (List.mem_cons_of_mem _ h)⟩ B.returns B.notSynchronized hP (lv_entry As hAs) (name_of_methodNamed B.named B.method).1
set_option maxRecDepth 100000 in
set_option maxHeartbeats 4000000 in
/-- Arrays.fill(int[], int), over any world -/
theorem cG_fill (l : Launch) (D : va_G) (tys : List (ClassId × FieldType)) (A : Nat → Prop) (kk : Nat → Nat) (ws : va_W) {k t0 q n : Nat} {cA : ClassId} {f : Nat → Int32} {v : Int32} (hk : ws[k]? = some (q, .inl (cA, n, .inl f))) (ht : tys[t0]? = some (cA, .int)) (hn : n ≤ 900) : Mv l yJ7_fill_53178 cJ7_fill_53178 4 { frames := 0, cells := 0, slots := 0, locals := 0 } [.ref q, .int v] (GW D tys A kk ws) (GW D tys A kk (ws.set k (q, .inl (cA, n, .inl (flf f n v))))) A := by
  refine Mv.of (own := RJ7) rfl (by decide +kernel) (Nat.le_of_ble_eq_true rfl) ?_
  intro p e s m args below meth c ls S hr hlk hG hl hnm
  obtain ⟨hP, hD, hK, hC, hN, hA⟩ := hG
  have hS : va_S A s.heap s.heap [] := va_S.rf
  have hl : lv_has ls 4 [(0, .ref q), (1, .int v)] := hl
  have hkl := (List.getElem?_eq_some_iff.mp hk).1
  refine lv_iconst (v := (0 : Int32)) S.1 S.2.1 dJ7_fill_53178_0 (by decide) ?_
  refine lv_istore_n (lv' := [(2, .int (nI 0)), (0, .ref q), (1, .int v)]) S.1 S.2.1 dJ7_fill_53178_1 rfl hl (by decide) rfl (fun ls hl => ?_)
  refine lv_aload_n S.1 S.2.1 dJ7_fill_53178_2 rfl (lv_at hl 1 rfl) ?_
  refine va_alen (v := nI n) S.1 S.2.1 hK hP k t0 hk ht rfl dJ7_fill_53178_3 ?_
  refine lv_istore_n (lv' := [(3, .int (nI n)), (2, .int (nI 0)), (0, .ref q), (1, .int v)]) S.1 S.2.1 dJ7_fill_53178_4 rfl hl (by decide) rfl (fun ls hl => ?_)
  have loop : ∀ (d i : Nat), n = i + d → ∀ (H : Heap) (locs : List Loc) (ls : Array Slot), lv_has ls 4 [(3, .int (nI n)), (2, .int (nI i)), (0, .ref q), (1, .int v)] → va_P D vwCl (ws.set k (q, .inl (cA, n, .inl (flf f i v)))) H → va_D A (ws.set k (q, .inl (cA, n, .inl (flf f i v)))) → va_S A s.heap H locs → W p l e { frames := 0, cells := 0, slots := 0, locals := 0 } s m args below meth c H locs 0 0 (MQ below (va_Qv (fun (_ : Unit) => True) (fun _ t => GW D tys A kk (ws.set k (q, .inl (cA, n, .inl (flf f n v)))) t) A) args s 0 0 A) (F0 m 5 ls []) := by
    intro d
    induction d with
    | zero =>
      intro i hi H locs ls hl hP hD hS
      have hi : i = n := by omega
      subst hi
      refine lv_iload_n S.1 S.2.1 dJ7_fill_53178_5 rfl (lv_at hl 1 rfl) ?_
      refine lv_iload_n S.1 S.2.1 dJ7_fill_53178_6 rfl (lv_at hl 0 rfl) ?_
      refine lv_icmp_ge (tgt := 20) S.1 S.2.1 dJ7_fill_53178_7 (by decide) (fun _ => ?_) (fun hc => absurd (Int32.le_refl _) hc)
      exact W.vret S.1 S.2.1 hr (fun t ht hw => ⟨⟨(), rfl, trivial, GW.of hP hD hK hC hN hA hS ht hw⟩, hS.F ht⟩) hS.2.2 dJ7_fill_53178_20 hlk
    | succ d ih =>
      intro i hi H locs ls hl hP hD hS
      have hlt : i < n := by omega
      refine lv_iload_n S.1 S.2.1 dJ7_fill_53178_5 rfl (lv_at hl 1 rfl) ?_
      refine lv_iload_n S.1 S.2.1 dJ7_fill_53178_6 rfl (lv_at hl 0 rfl) ?_
      refine lv_icmp_ge (tgt := 20) S.1 S.2.1 dJ7_fill_53178_7 (by decide) (fun hc => absurd hc (nI_ge hlt (by omega))) (fun _ => ?_)
      refine lv_aload_n S.1 S.2.1 dJ7_fill_53178_10 rfl (lv_at hl 2 rfl) ?_
      refine lv_iload_n S.1 S.2.1 dJ7_fill_53178_11 rfl (lv_at hl 1 rfl) ?_
      refine lv_iload_n S.1 S.2.1 dJ7_fill_53178_12 rfl (lv_at hl 3 rfl) ?_
      refine va_iast S.1 S.2.1 hK hP hD hS k t0 (List.getElem?_set_self hkl) ht (nI_in hlt (by omega)) dJ7_fill_53178_13 (fun H locs hP hD hS => ?_)
      rw [List.set_set, nI_clamp (by omega), flf_s] at hP hD
      refine lv_iinc (v := nI (i + 1)) (lv' := [(2, .int (nI (i + 1))), (3, .int (nI n)), (0, .ref q), (1, .int v)]) S.1 S.2.1 dJ7_fill_53178_14 hl (k := 1) rfl (nI_1 i) (by decide) rfl (fun ls hl => ?_)
      refine lv_goto (tgt := 5) S.1 S.2.1 dJ7_fill_53178_17 (by decide) ?_
      exact ih (i + 1) (by omega) H locs ls (lv_sub hl [1, 0, 2, 3] rfl) hP hD hS
  have h0 : ws.set k (q, .inl (cA, n, .inl (flf f 0 v))) = ws := by
    rw [flf_0]
    exact List.ext_getElem? (fun i => by
      by_cases h : k = i
      · subst h; rw [List.getElem?_set_self hkl, hk]
      · rw [List.getElem?_set_ne h])
  exact loop n 0 (by omega) _ _ ls hl (by rw [h0]; exact hP) (by rw [h0]; exact hD) hS
set_option maxRecDepth 100000 in
set_option maxHeartbeats 4000000 in
theorem cN_AC (l : Launch) (D : va_G) (tys : List (ClassId × FieldType)) (A : Nat → Prop) (kk : Nat → Nat) (w ws : va_W) {q : Nat} (hw : w = ws ++ [(q, .inr (0, [.int 0, .null, .int 0]))]) : MvN l yJxa1e45_init_da8c8 cJxa1e45_init_da8c8 1 { frames := 1, cells := 0, slots := 0, locals := 20 } [.ref q] (GW D tys A kk w) (fun u t => GW D (tys) A kk (ws ++ [(q, .inr (0, [.int 0, .null, .int 0]))]) t) A := by
  subst hw
  refine MvN.of (own := RJxa1e45) rfl (by decide +kernel) (Nat.le_of_ble_eq_true rfl) ?_
  intro p e s m args below meth c ls S hr hlk hG hl hnm
  obtain ⟨hP, hD, hK, hC, hN, hA⟩ := hG
  have hS : va_S A s.heap s.heap [] := va_S.rf
  have hl : lv_has ls 1 [(0, .ref q)] := hl
  refine lv_aload_n S.1 S.2.1 dJxa1e45_init_da8c8_0 rfl (lv_at hl 0 rfl) ?_
  refine W.objInit S.1 S.2.1 S.2.2.2.1 (S.2.2.2.2 _ m_102) (S.2.2.2.2 _ m_11) (S.2.2.2.2 _ m_12) rfl (hl.1.trans S.2.2.1.symm) rfl dJxa1e45_init_da8c8_1 (Nat.le_of_ble_eq_true rfl) (Nat.le_of_ble_eq_true rfl) ?_
  exact W.vret S.1 S.2.1 hr (fun t ht hw => ⟨⟨(fun _ => 0, fun _ => 0, fun _ => none), rfl, trivial, GW.of hP hD hK hC hN hA hS ht hw⟩, hS.F ht⟩) hS.2.2 dJxa1e45_init_da8c8_4 hlk

set_option maxRecDepth 100000 in
set_option maxHeartbeats 4000000 in
theorem cN_AL (l : Launch) (D : va_G) (tys : List (ClassId × FieldType)) (A : Nat → Prop) (kk : Nat → Nat) (w ws : va_W) {q : Nat} (hw : w = ws ++ [(q, .inr (0, [.int 0, .null, .int 0]))]) : MvN l yJxc12de_init_da8c8 cJxc12de_init_da8c8 1 { frames := 2, cells := 0, slots := 0, locals := 40 } [.ref q] (GW D tys A kk w) (fun u t => GW D (tys) A kk (ws ++ [(q, .inr (0, [.int (0), .null, .int 0]))]) t) A := by
  subst hw
  refine MvN.of (own := RJxc12de) rfl (by decide +kernel) (Nat.le_of_ble_eq_true rfl) ?_
  intro p e s m args below meth c ls S hr hlk hG hl hnm
  obtain ⟨hP, hD, hK, hC, hN, hA⟩ := hG
  have hS : va_S A s.heap s.heap [] := va_S.rf
  have hl : lv_has ls 1 [(0, .ref q)] := hl
  refine lv_aload_n S.1 S.2.1 dJxc12de_init_da8c8_0 rfl (lv_at hl 0 rfl) ?_
  refine va_callv (va_runI (As := []) (rest := []) (n := 0) S (cN_AC l D (tys) A kk (ws ++ [(q, .inr (0, [.int 0, .null, .int 0]))]) (ws ++ []) (List.append_assoc ws [] [(q, .inr (0, [.int 0, .null, .int 0]))]).symm) (cwI 0 S.2.2.2.2 (gd_I m_101) rfl rfl rfl (S.2.2.2.2 _ m_100) (S.2.2.2.2 _ m_98) (S.2.2.2.2 _ m_99) rfl (by decide +kernel) ⟨Nat.le_of_ble_eq_true rfl, Nat.le_of_ble_eq_true rfl⟩) ⟨fun a U g mk q => ⟨q.1, q.2.same⟩, fun U hU hw => ⟨rfl, GW.of hP hD hK hC hN hA hS hU hw⟩⟩ rfl rfl hl.1 rfl (lv_room (Nat.le_of_ble_eq_true rfl)) dJxc12de_init_da8c8_1 ⟨Nat.le_of_ble_eq_true rfl, Nat.le_of_ble_eq_true rfl⟩) hS (fun q _ h => h) (fun _ h => h) ?_
  intro u1 t H locs ht hvm _ hB _ _ hS
  obtain ⟨hP, hD, hK, -⟩ := hB
  rw [ht] at hP
  have hK := va_K.moved hvm.symm hK
  have hK : va_K D vwCl (tys) s := hK
  have hP : va_P D vwCl (ws ++ [(q, .inr (0, [.int 0, .null, .int 0]))]) H := by have h := nP hP; exact h
  have hD : va_D A (ws ++ [(q, .inr (0, [.int 0, .null, .int 0]))]) := by have h := nD hD; exact h
  refine lv_aload_n S.1 S.2.1 dJxc12de_init_da8c8_4 rfl (lv_at hl 0 rfl) ?_
  refine lv_iconst (v := (0 : Int32)) S.1 S.2.1 dJxc12de_init_da8c8_5 (by decide) ?_
  refine va_put (D := D) (ci := 0) (v := .int (0)) (ty := .int) (C := RJx4a65c) (T := TJx4a65c) (N := 3) S.1 S.2.1 S.2.2.2.2 inJx4a65c tyJx4a65c tyJx4a65c_ok nmJx4a65c S.2.2.2.1 hK hP hD hS (ws.length + 0) (tl_at ws _ 0 rfl) rfl 0 (by decide) (S.2.2.2.2 _ m_97) (fun _ h => h) rfl (by decide +kernel) rfl rfl (Nat.le_of_ble_eq_true rfl) dJxc12de_init_da8c8_6 (fun H locs hP hD hS => ?_)
  have hP : va_P D vwCl (ws ++ [(q, .inr (0, [.int (0), .null, .int 0]))]) H := by have h := nSP hP; exact h
  have hD : va_D A (ws ++ [(q, .inr (0, [.int (0), .null, .int 0]))]) := by have h := nSD hD; exact h
  exact W.vret S.1 S.2.1 hr (fun t ht hw => ⟨⟨(fun _ => 0, fun _ => 0, fun _ => none), rfl, trivial, GW.of hP hD hK hC hN hA hS ht hw⟩, hS.F ht⟩) hS.2.2 dJxc12de_init_da8c8_9 hlk

set_option maxRecDepth 100000 in
set_option maxHeartbeats 4000000 in
theorem cN_list (l : Launch) (D : va_G) (tys : List (ClassId × FieldType)) (A : Nat → Prop) (kk : Nat → Nat) (w ws : va_W) {q : Nat} (hw : w = ws ++ [(q, .inr (0, [.int 0, .null, .int 0]))]) : MvN l yJx4a65c_init_da8c8 cJx4a65c_init_da8c8 1 { frames := 3, cells := 0, slots := 0, locals := 60 } [.ref q] (GW D tys A kk w) (fun u t => GW D (tys) A kk (ws ++ [(q, .inr (0, [.int (0), .ref (kk 41), .int 0]))]) t) A := by
  subst hw
  refine MvN.of (own := RJx4a65c) rfl (by decide +kernel) (Nat.le_of_ble_eq_true rfl) ?_
  intro p e s m args below meth c ls S hr hlk hG hl hnm
  obtain ⟨hP, hD, hK, hC, hN, hA⟩ := hG
  have hS : va_S A s.heap s.heap [] := va_S.rf
  have hl : lv_has ls 1 [(0, .ref q)] := hl
  refine lv_aload_n S.1 S.2.1 dJx4a65c_init_da8c8_0 rfl (lv_at hl 0 rfl) ?_
  refine va_callv (va_runI (As := []) (rest := []) (n := 0) S (cN_AL l D (tys) A kk (ws ++ [(q, .inr (0, [.int 0, .null, .int 0]))]) (ws ++ []) (List.append_assoc ws [] [(q, .inr (0, [.int 0, .null, .int 0]))]).symm) (cwI 0 S.2.2.2.2 (gd_I m_96) rfl rfl rfl (S.2.2.2.2 _ m_95) (S.2.2.2.2 _ m_93) (S.2.2.2.2 _ m_94) rfl (by decide +kernel) ⟨Nat.le_of_ble_eq_true rfl, Nat.le_of_ble_eq_true rfl⟩) ⟨fun a U g mk q => ⟨q.1, q.2.same⟩, fun U hU hw => ⟨rfl, GW.of hP hD hK hC hN hA hS hU hw⟩⟩ rfl rfl hl.1 rfl (lv_room (Nat.le_of_ble_eq_true rfl)) dJx4a65c_init_da8c8_1 ⟨Nat.le_of_ble_eq_true rfl, Nat.le_of_ble_eq_true rfl⟩) hS (fun q _ h => h) (fun _ h => h) ?_
  intro u1 t H locs ht hvm _ hB _ _ hS
  obtain ⟨hP, hD, hK, -⟩ := hB
  rw [ht] at hP
  have hK := va_K.moved hvm.symm hK
  have hK : va_K D vwCl (tys) s := hK
  have hP : va_P D vwCl (ws ++ [(q, .inr (0, [.int (0), .null, .int 0]))]) H := by have h := nP hP; exact h
  have hD : va_D A (ws ++ [(q, .inr (0, [.int (0), .null, .int 0]))]) := by have h := nD hD; exact h
  refine lv_aload_n S.1 S.2.1 dJx4a65c_init_da8c8_4 rfl (lv_at hl 0 rfl) ?_
  refine va_gets S.1 S.2.1 hC.2.2.2.2.2.1 hS S.2.2.2.1 (S.2.2.2.2 _ m_91) (fun _ h => h) dJx4a65c_init_da8c8_5 ?_
  refine va_put (D := D) (ci := 0) (v := .ref (kk 41)) (ty := (.array (.object "java/lang/Object"))) (C := RJx4a65c) (T := TJx4a65c) (N := 3) S.1 S.2.1 S.2.2.2.2 inJx4a65c tyJx4a65c tyJx4a65c_ok nmJx4a65c S.2.2.2.1 hK hP hD hS (ws.length + 0) (tl_at ws _ 0 rfl) rfl 1 (by decide) (S.2.2.2.2 _ m_92) (fun _ h => h) rfl (by decide +kernel) rfl rfl (Nat.le_of_ble_eq_true rfl) dJx4a65c_init_da8c8_8 (fun H locs hP hD hS => ?_)
  have hP : va_P D vwCl (ws ++ [(q, .inr (0, [.int (0), .ref (kk 41), .int 0]))]) H := by have h := nSP hP; exact h
  have hD : va_D A (ws ++ [(q, .inr (0, [.int (0), .ref (kk 41), .int 0]))]) := by have h := nSD hD; exact h
  exact W.vret S.1 S.2.1 hr (fun t ht hw => ⟨⟨(fun _ => 0, fun _ => 0, fun _ => none), rfl, trivial, GW.of hP hD hK hC hN hA hS ht hw⟩, hS.F ht⟩) hS.2.2 dJx4a65c_init_da8c8_11 hlk

set_option maxRecDepth 100000 in
set_option maxHeartbeats 4000000 in
theorem cN_X8 (l : Launch) (D : va_G) (tys : List (ClassId × FieldType)) (A : Nat → Prop) (kk : Nat → Nat) (w ws : va_W) {q : Nat} (hw : w = ws ++ [(q, .inr (9, [.null, .int 0]))]) : MvN l yX8_init cX8_init 1 { frames := 1, cells := 1, slots := 200, locals := 20 } [.ref q] (GW D tys A kk w) (fun u t => GW D (tys ++ [((u.2.1 0), .int)]) A kk (ws ++ [(q, .inr (9, [.ref (u.1 0), .int (0)])), ((u.1 0), .inl ((u.2.1 0), 200, .inl (fun _ => 0)))]) t) A := by
  subst hw
  refine MvN.of (own := RX8) rfl (by decide +kernel) (Nat.le_of_ble_eq_true rfl) ?_
  intro p e s m args below meth c ls S hr hlk hG hl hnm
  obtain ⟨hP, hD, hK, hC, hN, hA⟩ := hG
  have hS : va_S A s.heap s.heap [] := va_S.rf
  have hl : lv_has ls 1 [(0, .ref q)] := hl
  refine lv_aload_n S.1 S.2.1 dX8_init_0 rfl (lv_at hl 0 rfl) ?_
  refine W.objInit S.1 S.2.1 S.2.2.2.1 (S.2.2.2.2 _ m_40) (S.2.2.2.2 _ m_11) (S.2.2.2.2 _ m_12) rfl (hl.1.trans S.2.2.1.symm) rfl dX8_init_1 (Nat.le_of_ble_eq_true rfl) (Nat.le_of_ble_eq_true rfl) ?_
  refine lv_aload_n S.1 S.2.1 dX8_init_4 rfl (lv_at hl 0 rfl) ?_
  refine lv_sipush (v := (200 : Int32)) S.1 S.2.1 dX8_init_5 (by decide) ?_
  refine va_newa (D := D) (atype := .int) S.1 S.2.1 (S.2.2.2.2 _ m_41) rfl hK hP hD hS hA (N' := 200) (a0 := (200, .inl (fun _ => 0))) (fun _ => rfl) (by decide) (by decide) (Nat.le_of_ble_eq_true rfl) (Nat.le_of_ble_eq_true rfl) (Nat.le_of_ble_eq_true rfl) dX8_init_8 (fun q1 c1 H hK hP hD hS => ?_)
  have hK : va_K D vwCl (tys ++ [(c1, .int)]) s := by have h := hK; exact h
  have hP : va_P D vwCl (ws ++ [(q, .inr (9, [.null, .int 0])), (q1, .inl (c1, 200, .inl (fun _ => 0)))]) H := by have h := nP hP; exact h
  have hD : va_D A (ws ++ [(q, .inr (9, [.null, .int 0])), (q1, .inl (c1, 200, .inl (fun _ => 0)))]) := by have h := nD hD; exact h
  refine va_putF (D := D) (ci := 9) (v := .ref q1) (ty := (.array .int)) (C := RX8) (T := TX8) (N := 2) S.1 S.2.1 S.2.2.2.2 inX8 tyX8 tyX8_ok nmX8 S.2.2.2.1 hK hP hD hS (ws.length + 0) (tl_at ws _ 0 rfl) rfl 0 (by decide) (S.2.2.2.2 _ m_42) (fun _ h => h) rfl hnm rfl (by decide +kernel) rfl rfl (Nat.le_of_ble_eq_true rfl) dX8_init_10 (fun H locs hP hD hS => ?_)
  have hP : va_P D vwCl (ws ++ [(q, .inr (9, [.ref q1, .int 0])), (q1, .inl (c1, 200, .inl (fun _ => 0)))]) H := by have h := nSP hP; exact h
  have hD : va_D A (ws ++ [(q, .inr (9, [.ref q1, .int 0])), (q1, .inl (c1, 200, .inl (fun _ => 0)))]) := by have h := nSD hD; exact h
  refine lv_aload_n S.1 S.2.1 dX8_init_13 rfl (lv_at hl 0 rfl) ?_
  refine lv_iconst (v := (0 : Int32)) S.1 S.2.1 dX8_init_14 (by decide) ?_
  refine va_put (D := D) (ci := 9) (v := .int (0)) (ty := .int) (C := RX8) (T := TX8) (N := 2) S.1 S.2.1 S.2.2.2.2 inX8 tyX8 tyX8_ok nmX8 S.2.2.2.1 hK hP hD hS (ws.length + 0) (tl_at ws _ 0 rfl) rfl 1 (by decide) (S.2.2.2.2 _ m_43) (fun _ h => h) rfl (by decide +kernel) rfl rfl (Nat.le_of_ble_eq_true rfl) dX8_init_15 (fun H locs hP hD hS => ?_)
  have hP : va_P D vwCl (ws ++ [(q, .inr (9, [.ref q1, .int (0)])), (q1, .inl (c1, 200, .inl (fun _ => 0)))]) H := by have h := nSP hP; exact h
  have hD : va_D A (ws ++ [(q, .inr (9, [.ref q1, .int (0)])), (q1, .inl (c1, 200, .inl (fun _ => 0)))]) := by have h := nSD hD; exact h
  exact W.vret S.1 S.2.1 hr (fun t ht hw => ⟨⟨(fun k => match k with | 0 => q1 | _ => 0, fun k => match k with | 0 => c1 | _ => 0, fun _ => none), rfl, trivial, GW.of hP hD hK hC hN hA hS ht hw⟩, hS.F ht⟩) hS.2.2 dX8_init_18 hlk

set_option maxRecDepth 100000 in
set_option maxHeartbeats 4000000 in
theorem cN_X7 (l : Launch) (D : va_G) (tys : List (ClassId × FieldType)) (A : Nat → Prop) (kk : Nat → Nat) (w ws : va_W) {q : Nat} (hw : w = ws ++ [(q, .inr (8, [.null, .null, .null, .int 0, .int 0]))]) : MvN l yX7_init cX7_init 1 { frames := 1, cells := 3, slots := 180, locals := 20 } [.ref q] (GW D tys A kk w) (fun u t => GW D (tys ++ [((u.2.1 0), .int), ((u.2.1 1), .int), ((u.2.1 2), .int)]) A kk (ws ++ [(q, .inr (8, [.ref (u.1 0), .ref (u.1 1), .ref (u.1 2), .int (0), .int (0)])), ((u.1 0), .inl ((u.2.1 0), 60, .inl (fun _ => 0))), ((u.1 1), .inl ((u.2.1 1), 60, .inl (fun _ => 0))), ((u.1 2), .inl ((u.2.1 2), 60, .inl (fun _ => 0)))]) t) A := by
  subst hw
  refine MvN.of (own := RX7) rfl (by decide +kernel) (Nat.le_of_ble_eq_true rfl) ?_
  intro p e s m args below meth c ls S hr hlk hG hl hnm
  obtain ⟨hP, hD, hK, hC, hN, hA⟩ := hG
  have hS : va_S A s.heap s.heap [] := va_S.rf
  have hl : lv_has ls 1 [(0, .ref q)] := hl
  refine lv_aload_n S.1 S.2.1 dX7_init_0 rfl (lv_at hl 0 rfl) ?_
  refine W.objInit S.1 S.2.1 S.2.2.2.1 (S.2.2.2.2 _ m_47) (S.2.2.2.2 _ m_11) (S.2.2.2.2 _ m_12) rfl (hl.1.trans S.2.2.1.symm) rfl dX7_init_1 (Nat.le_of_ble_eq_true rfl) (Nat.le_of_ble_eq_true rfl) ?_
  refine lv_aload_n S.1 S.2.1 dX7_init_4 rfl (lv_at hl 0 rfl) ?_
  refine lv_bipush (v := (60 : Int32)) S.1 S.2.1 dX7_init_5 (by decide) ?_
  refine va_newa (D := D) (atype := .int) S.1 S.2.1 (S.2.2.2.2 _ m_41) rfl hK hP hD hS hA (N' := 60) (a0 := (60, .inl (fun _ => 0))) (fun _ => rfl) (by decide) (by decide) (Nat.le_of_ble_eq_true rfl) (Nat.le_of_ble_eq_true rfl) (Nat.le_of_ble_eq_true rfl) dX7_init_7 (fun q1 c1 H hK hP hD hS => ?_)
  have hK : va_K D vwCl (tys ++ [(c1, .int)]) s := by have h := hK; exact h
  have hP : va_P D vwCl (ws ++ [(q, .inr (8, [.null, .null, .null, .int 0, .int 0])), (q1, .inl (c1, 60, .inl (fun _ => 0)))]) H := by have h := nP hP; exact h
  have hD : va_D A (ws ++ [(q, .inr (8, [.null, .null, .null, .int 0, .int 0])), (q1, .inl (c1, 60, .inl (fun _ => 0)))]) := by have h := nD hD; exact h
  refine va_putF (D := D) (ci := 8) (v := .ref q1) (ty := (.array .int)) (C := RX7) (T := TX7) (N := 5) S.1 S.2.1 S.2.2.2.2 inX7 tyX7 tyX7_ok nmX7 S.2.2.2.1 hK hP hD hS (ws.length + 0) (tl_at ws _ 0 rfl) rfl 0 (by decide) (S.2.2.2.2 _ m_48) (fun _ h => h) rfl hnm rfl (by decide +kernel) rfl rfl (Nat.le_of_ble_eq_true rfl) dX7_init_9 (fun H locs hP hD hS => ?_)
  have hP : va_P D vwCl (ws ++ [(q, .inr (8, [.ref q1, .null, .null, .int 0, .int 0])), (q1, .inl (c1, 60, .inl (fun _ => 0)))]) H := by have h := nSP hP; exact h
  have hD : va_D A (ws ++ [(q, .inr (8, [.ref q1, .null, .null, .int 0, .int 0])), (q1, .inl (c1, 60, .inl (fun _ => 0)))]) := by have h := nSD hD; exact h
  refine lv_aload_n S.1 S.2.1 dX7_init_12 rfl (lv_at hl 0 rfl) ?_
  refine lv_bipush (v := (60 : Int32)) S.1 S.2.1 dX7_init_13 (by decide) ?_
  refine va_newa (D := D) (atype := .int) S.1 S.2.1 (S.2.2.2.2 _ m_41) rfl hK hP hD hS hA (N' := 60) (a0 := (60, .inl (fun _ => 0))) (fun _ => rfl) (by decide) (by decide) (Nat.le_of_ble_eq_true rfl) (Nat.le_of_ble_eq_true rfl) (Nat.le_of_ble_eq_true rfl) dX7_init_15 (fun q2 c2 H hK hP hD hS => ?_)
  have hK : va_K D vwCl (tys ++ [(c1, .int), (c2, .int)]) s := by have h := nK hK; exact h
  have hP : va_P D vwCl (ws ++ [(q, .inr (8, [.ref q1, .null, .null, .int 0, .int 0])), (q1, .inl (c1, 60, .inl (fun _ => 0))), (q2, .inl (c2, 60, .inl (fun _ => 0)))]) H := by have h := nP hP; exact h
  have hD : va_D A (ws ++ [(q, .inr (8, [.ref q1, .null, .null, .int 0, .int 0])), (q1, .inl (c1, 60, .inl (fun _ => 0))), (q2, .inl (c2, 60, .inl (fun _ => 0)))]) := by have h := nD hD; exact h
  refine va_putF (D := D) (ci := 8) (v := .ref q2) (ty := (.array .int)) (C := RX7) (T := TX7) (N := 5) S.1 S.2.1 S.2.2.2.2 inX7 tyX7 tyX7_ok nmX7 S.2.2.2.1 hK hP hD hS (ws.length + 0) (tl_at ws _ 0 rfl) rfl 1 (by decide) (S.2.2.2.2 _ m_49) (fun _ h => h) rfl hnm rfl (by decide +kernel) rfl rfl (Nat.le_of_ble_eq_true rfl) dX7_init_17 (fun H locs hP hD hS => ?_)
  have hP : va_P D vwCl (ws ++ [(q, .inr (8, [.ref q1, .ref q2, .null, .int 0, .int 0])), (q1, .inl (c1, 60, .inl (fun _ => 0))), (q2, .inl (c2, 60, .inl (fun _ => 0)))]) H := by have h := nSP hP; exact h
  have hD : va_D A (ws ++ [(q, .inr (8, [.ref q1, .ref q2, .null, .int 0, .int 0])), (q1, .inl (c1, 60, .inl (fun _ => 0))), (q2, .inl (c2, 60, .inl (fun _ => 0)))]) := by have h := nSD hD; exact h
  refine lv_aload_n S.1 S.2.1 dX7_init_20 rfl (lv_at hl 0 rfl) ?_
  refine lv_bipush (v := (60 : Int32)) S.1 S.2.1 dX7_init_21 (by decide) ?_
  refine va_newa (D := D) (atype := .int) S.1 S.2.1 (S.2.2.2.2 _ m_41) rfl hK hP hD hS hA (N' := 60) (a0 := (60, .inl (fun _ => 0))) (fun _ => rfl) (by decide) (by decide) (Nat.le_of_ble_eq_true rfl) (Nat.le_of_ble_eq_true rfl) (Nat.le_of_ble_eq_true rfl) dX7_init_23 (fun q3 c3 H hK hP hD hS => ?_)
  have hK : va_K D vwCl (tys ++ [(c1, .int), (c2, .int), (c3, .int)]) s := by have h := nK hK; exact h
  have hP : va_P D vwCl (ws ++ [(q, .inr (8, [.ref q1, .ref q2, .null, .int 0, .int 0])), (q1, .inl (c1, 60, .inl (fun _ => 0))), (q2, .inl (c2, 60, .inl (fun _ => 0))), (q3, .inl (c3, 60, .inl (fun _ => 0)))]) H := by have h := nP hP; exact h
  have hD : va_D A (ws ++ [(q, .inr (8, [.ref q1, .ref q2, .null, .int 0, .int 0])), (q1, .inl (c1, 60, .inl (fun _ => 0))), (q2, .inl (c2, 60, .inl (fun _ => 0))), (q3, .inl (c3, 60, .inl (fun _ => 0)))]) := by have h := nD hD; exact h
  refine va_putF (D := D) (ci := 8) (v := .ref q3) (ty := (.array .int)) (C := RX7) (T := TX7) (N := 5) S.1 S.2.1 S.2.2.2.2 inX7 tyX7 tyX7_ok nmX7 S.2.2.2.1 hK hP hD hS (ws.length + 0) (tl_at ws _ 0 rfl) rfl 2 (by decide) (S.2.2.2.2 _ m_50) (fun _ h => h) rfl hnm rfl (by decide +kernel) rfl rfl (Nat.le_of_ble_eq_true rfl) dX7_init_25 (fun H locs hP hD hS => ?_)
  have hP : va_P D vwCl (ws ++ [(q, .inr (8, [.ref q1, .ref q2, .ref q3, .int 0, .int 0])), (q1, .inl (c1, 60, .inl (fun _ => 0))), (q2, .inl (c2, 60, .inl (fun _ => 0))), (q3, .inl (c3, 60, .inl (fun _ => 0)))]) H := by have h := nSP hP; exact h
  have hD : va_D A (ws ++ [(q, .inr (8, [.ref q1, .ref q2, .ref q3, .int 0, .int 0])), (q1, .inl (c1, 60, .inl (fun _ => 0))), (q2, .inl (c2, 60, .inl (fun _ => 0))), (q3, .inl (c3, 60, .inl (fun _ => 0)))]) := by have h := nSD hD; exact h
  refine lv_aload_n S.1 S.2.1 dX7_init_28 rfl (lv_at hl 0 rfl) ?_
  refine lv_iconst (v := (0 : Int32)) S.1 S.2.1 dX7_init_29 (by decide) ?_
  refine va_put (D := D) (ci := 8) (v := .int (0)) (ty := .int) (C := RX7) (T := TX7) (N := 5) S.1 S.2.1 S.2.2.2.2 inX7 tyX7 tyX7_ok nmX7 S.2.2.2.1 hK hP hD hS (ws.length + 0) (tl_at ws _ 0 rfl) rfl 3 (by decide) (S.2.2.2.2 _ m_51) (fun _ h => h) rfl (by decide +kernel) rfl rfl (Nat.le_of_ble_eq_true rfl) dX7_init_30 (fun H locs hP hD hS => ?_)
  have hP : va_P D vwCl (ws ++ [(q, .inr (8, [.ref q1, .ref q2, .ref q3, .int (0), .int 0])), (q1, .inl (c1, 60, .inl (fun _ => 0))), (q2, .inl (c2, 60, .inl (fun _ => 0))), (q3, .inl (c3, 60, .inl (fun _ => 0)))]) H := by have h := nSP hP; exact h
  have hD : va_D A (ws ++ [(q, .inr (8, [.ref q1, .ref q2, .ref q3, .int (0), .int 0])), (q1, .inl (c1, 60, .inl (fun _ => 0))), (q2, .inl (c2, 60, .inl (fun _ => 0))), (q3, .inl (c3, 60, .inl (fun _ => 0)))]) := by have h := nSD hD; exact h
  refine lv_aload_n S.1 S.2.1 dX7_init_33 rfl (lv_at hl 0 rfl) ?_
  refine lv_iconst (v := (0 : Int32)) S.1 S.2.1 dX7_init_34 (by decide) ?_
  refine va_put (D := D) (ci := 8) (v := .int (0)) (ty := .int) (C := RX7) (T := TX7) (N := 5) S.1 S.2.1 S.2.2.2.2 inX7 tyX7 tyX7_ok nmX7 S.2.2.2.1 hK hP hD hS (ws.length + 0) (tl_at ws _ 0 rfl) rfl 4 (by decide) (S.2.2.2.2 _ m_52) (fun _ h => h) rfl (by decide +kernel) rfl rfl (Nat.le_of_ble_eq_true rfl) dX7_init_35 (fun H locs hP hD hS => ?_)
  have hP : va_P D vwCl (ws ++ [(q, .inr (8, [.ref q1, .ref q2, .ref q3, .int (0), .int (0)])), (q1, .inl (c1, 60, .inl (fun _ => 0))), (q2, .inl (c2, 60, .inl (fun _ => 0))), (q3, .inl (c3, 60, .inl (fun _ => 0)))]) H := by have h := nSP hP; exact h
  have hD : va_D A (ws ++ [(q, .inr (8, [.ref q1, .ref q2, .ref q3, .int (0), .int (0)])), (q1, .inl (c1, 60, .inl (fun _ => 0))), (q2, .inl (c2, 60, .inl (fun _ => 0))), (q3, .inl (c3, 60, .inl (fun _ => 0)))]) := by have h := nSD hD; exact h
  exact W.vret S.1 S.2.1 hr (fun t ht hw => ⟨⟨(fun k => match k with | 0 => q1 | 1 => q2 | 2 => q3 | _ => 0, fun k => match k with | 0 => c1 | 1 => c2 | 2 => c3 | _ => 0, fun _ => none), rfl, trivial, GW.of hP hD hK hC hN hA hS ht hw⟩, hS.F ht⟩) hS.2.2 dX7_init_38 hlk

set_option maxRecDepth 100000 in
set_option maxHeartbeats 4000000 in
theorem cN_X9 (l : Launch) (D : va_G) (tys : List (ClassId × FieldType)) (A : Nat → Prop) (kk : Nat → Nat) (w ws : va_W) {q : Nat} {a1 : Nat} {a2 : Nat} (hw : w = ws ++ [(q, .inr (10, [.null, .null, .int 0, .int 0, .int 0]))]) : MvN l yX9_init cX9_init 3 { frames := 1, cells := 0, slots := 0, locals := 20 } [.ref q, .ref a1, .ref a2] (GW D tys A kk w) (fun u t => GW D (tys) A kk (ws ++ [(q, .inr (10, [.ref a1, .ref a2, .int (0), .int (0), .int (0)]))]) t) A := by
  subst hw
  refine MvN.of (own := RX9) rfl (by decide +kernel) (Nat.le_of_ble_eq_true rfl) ?_
  intro p e s m args below meth c ls S hr hlk hG hl hnm
  obtain ⟨hP, hD, hK, hC, hN, hA⟩ := hG
  have hS : va_S A s.heap s.heap [] := va_S.rf
  have hl : lv_has ls 3 [(0, .ref q), (1, .ref a1), (2, .ref a2)] := hl
  refine lv_aload_n S.1 S.2.1 dX9_init_0 rfl (lv_at hl 0 rfl) ?_
  refine W.objInit S.1 S.2.1 S.2.2.2.1 (S.2.2.2.2 _ m_56) (S.2.2.2.2 _ m_11) (S.2.2.2.2 _ m_12) rfl (hl.1.trans S.2.2.1.symm) rfl dX9_init_1 (Nat.le_of_ble_eq_true rfl) (Nat.le_of_ble_eq_true rfl) ?_
  refine lv_aload_n S.1 S.2.1 dX9_init_4 rfl (lv_at hl 0 rfl) ?_
  refine lv_aload_n S.1 S.2.1 dX9_init_5 rfl (lv_at hl 1 rfl) ?_
  refine va_putF (D := D) (ci := 10) (v := .ref a1) (ty := (.object "BookClub$Tape")) (C := RX9) (T := TX9) (N := 5) S.1 S.2.1 S.2.2.2.2 inX9 tyX9 tyX9_ok nmX9 S.2.2.2.1 hK hP hD hS (ws.length + 0) (tl_at ws _ 0 rfl) rfl 0 (by decide) (S.2.2.2.2 _ m_57) (fun _ h => h) rfl hnm rfl (by decide +kernel) rfl rfl (Nat.le_of_ble_eq_true rfl) dX9_init_6 (fun H locs hP hD hS => ?_)
  have hP : va_P D vwCl (ws ++ [(q, .inr (10, [.ref a1, .null, .int 0, .int 0, .int 0]))]) H := by have h := nSP hP; exact h
  have hD : va_D A (ws ++ [(q, .inr (10, [.ref a1, .null, .int 0, .int 0, .int 0]))]) := by have h := nSD hD; exact h
  refine lv_aload_n S.1 S.2.1 dX9_init_9 rfl (lv_at hl 0 rfl) ?_
  refine lv_aload_n S.1 S.2.1 dX9_init_10 rfl (lv_at hl 2 rfl) ?_
  refine va_putF (D := D) (ci := 10) (v := .ref a2) (ty := (.object "BookClub$RuleBook")) (C := RX9) (T := TX9) (N := 5) S.1 S.2.1 S.2.2.2.2 inX9 tyX9 tyX9_ok nmX9 S.2.2.2.1 hK hP hD hS (ws.length + 0) (tl_at ws _ 0 rfl) rfl 1 (by decide) (S.2.2.2.2 _ m_58) (fun _ h => h) rfl hnm rfl (by decide +kernel) rfl rfl (Nat.le_of_ble_eq_true rfl) dX9_init_11 (fun H locs hP hD hS => ?_)
  have hP : va_P D vwCl (ws ++ [(q, .inr (10, [.ref a1, .ref a2, .int 0, .int 0, .int 0]))]) H := by have h := nSP hP; exact h
  have hD : va_D A (ws ++ [(q, .inr (10, [.ref a1, .ref a2, .int 0, .int 0, .int 0]))]) := by have h := nSD hD; exact h
  refine lv_aload_n S.1 S.2.1 dX9_init_14 rfl (lv_at hl 0 rfl) ?_
  refine lv_iconst (v := (0 : Int32)) S.1 S.2.1 dX9_init_15 (by decide) ?_
  refine va_put (D := D) (ci := 10) (v := .int (0)) (ty := .int) (C := RX9) (T := TX9) (N := 5) S.1 S.2.1 S.2.2.2.2 inX9 tyX9 tyX9_ok nmX9 S.2.2.2.1 hK hP hD hS (ws.length + 0) (tl_at ws _ 0 rfl) rfl 2 (by decide) (S.2.2.2.2 _ m_59) (fun _ h => h) rfl (by decide +kernel) rfl rfl (Nat.le_of_ble_eq_true rfl) dX9_init_16 (fun H locs hP hD hS => ?_)
  have hP : va_P D vwCl (ws ++ [(q, .inr (10, [.ref a1, .ref a2, .int (0), .int 0, .int 0]))]) H := by have h := nSP hP; exact h
  have hD : va_D A (ws ++ [(q, .inr (10, [.ref a1, .ref a2, .int (0), .int 0, .int 0]))]) := by have h := nSD hD; exact h
  refine lv_aload_n S.1 S.2.1 dX9_init_19 rfl (lv_at hl 0 rfl) ?_
  refine lv_iconst (v := (0 : Int32)) S.1 S.2.1 dX9_init_20 (by decide) ?_
  refine va_put (D := D) (ci := 10) (v := .int (0)) (ty := .int) (C := RX9) (T := TX9) (N := 5) S.1 S.2.1 S.2.2.2.2 inX9 tyX9 tyX9_ok nmX9 S.2.2.2.1 hK hP hD hS (ws.length + 0) (tl_at ws _ 0 rfl) rfl 3 (by decide) (S.2.2.2.2 _ m_60) (fun _ h => h) rfl (by decide +kernel) rfl rfl (Nat.le_of_ble_eq_true rfl) dX9_init_21 (fun H locs hP hD hS => ?_)
  have hP : va_P D vwCl (ws ++ [(q, .inr (10, [.ref a1, .ref a2, .int (0), .int (0), .int 0]))]) H := by have h := nSP hP; exact h
  have hD : va_D A (ws ++ [(q, .inr (10, [.ref a1, .ref a2, .int (0), .int (0), .int 0]))]) := by have h := nSD hD; exact h
  refine lv_aload_n S.1 S.2.1 dX9_init_24 rfl (lv_at hl 0 rfl) ?_
  refine lv_iconst (v := (0 : Int32)) S.1 S.2.1 dX9_init_25 (by decide) ?_
  refine va_put (D := D) (ci := 10) (v := .int (0)) (ty := .int) (C := RX9) (T := TX9) (N := 5) S.1 S.2.1 S.2.2.2.2 inX9 tyX9 tyX9_ok nmX9 S.2.2.2.1 hK hP hD hS (ws.length + 0) (tl_at ws _ 0 rfl) rfl 4 (by decide) (S.2.2.2.2 _ m_61) (fun _ h => h) rfl (by decide +kernel) rfl rfl (Nat.le_of_ble_eq_true rfl) dX9_init_26 (fun H locs hP hD hS => ?_)
  have hP : va_P D vwCl (ws ++ [(q, .inr (10, [.ref a1, .ref a2, .int (0), .int (0), .int (0)]))]) H := by have h := nSP hP; exact h
  have hD : va_D A (ws ++ [(q, .inr (10, [.ref a1, .ref a2, .int (0), .int (0), .int (0)]))]) := by have h := nSD hD; exact h
  exact W.vret S.1 S.2.1 hr (fun t ht hw => ⟨⟨(fun _ => 0, fun _ => 0, fun _ => none), rfl, trivial, GW.of hP hD hK hC hN hA hS ht hw⟩, hS.F ht⟩) hS.2.2 dX9_init_29 hlk

set_option maxRecDepth 100000 in
set_option maxHeartbeats 4000000 in
theorem cN_X5 (l : Launch) (D : va_G) (tys : List (ClassId × FieldType)) (A : Nat → Prop) (kk : Nat → Nat) (w ws : va_W) {q : Nat} (hw : w = ws ++ [(q, .inr (6, [.null]))]) : MvN l yX5_init cX5_init 1 { frames := 4, cells := 1, slots := 3, locals := 80 } [.ref q] (GW D tys A kk w) (fun u t => GW D (tys) A kk (ws ++ [(q, .inr (6, [.ref (u.1 0)])), ((u.1 0), .inr (0, [.int (0), .ref (kk 41), .int 0]))]) t) A := by
  subst hw
  refine MvN.of (own := RX5) rfl (by decide +kernel) (Nat.le_of_ble_eq_true rfl) ?_
  intro p e s m args below meth c ls S hr hlk hG hl hnm
  obtain ⟨hP, hD, hK, hC, hN, hA⟩ := hG
  have hS : va_S A s.heap s.heap [] := va_S.rf
  have hl : lv_has ls 1 [(0, .ref q)] := hl
  refine lv_aload_n S.1 S.2.1 dX5_init_0 rfl (lv_at hl 0 rfl) ?_
  refine W.objInit S.1 S.2.1 S.2.2.2.1 (S.2.2.2.2 _ m_106) (S.2.2.2.2 _ m_11) (S.2.2.2.2 _ m_12) rfl (hl.1.trans S.2.2.1.symm) rfl dX5_init_1 (Nat.le_of_ble_eq_true rfl) (Nat.le_of_ble_eq_true rfl) ?_
  refine lv_aload_n S.1 S.2.1 dX5_init_4 rfl (lv_at hl 0 rfl) ?_
  refine va_new (D := D) (ci := 0) (C := RJx4a65c) (T := TJx4a65c) (N := 3) S.1 S.2.1 S.2.2.2.2 inJx4a65c tyJx4a65c tyJx4a65c_ok S.2.2.2.1 (S.2.2.2.2 _ m_107) (S.2.2.2.2 _ m_71) (S.2.2.2.2 _ m_72) hK hP hD hS hA rfl (fs := [.int 0, .null, .int 0]) (by decide) (Nat.le_of_ble_eq_true rfl) (Nat.le_of_ble_eq_true rfl) dX5_init_5 (fun q1 H hP hD hS => ?_)
  have hP : va_P D vwCl (ws ++ [(q, .inr (6, [.null])), (q1, .inr (0, [.int 0, .null, .int 0]))]) H := by have h := nP hP; exact h
  have hD : va_D A (ws ++ [(q, .inr (6, [.null])), (q1, .inr (0, [.int 0, .null, .int 0]))]) := by have h := nD hD; exact h
  refine lv_dup S.1 S.2.1 dX5_init_8 rfl ?_
  refine va_callv (va_runI (As := []) (rest := [.ref q1, .ref q]) (n := 0) S (cN_list l D (tys) A kk (ws ++ [(q, .inr (6, [.null])), (q1, .inr (0, [.int 0, .null, .int 0]))]) (ws ++ [(q, .inr (6, [.null]))]) (List.append_assoc ws [(q, .inr (6, [.null]))] [(q1, .inr (0, [.int 0, .null, .int 0]))]).symm) (cwI 0 S.2.2.2.2 (gd_I m_90) rfl rfl rfl (S.2.2.2.2 _ m_72) (S.2.2.2.2 _ m_109) (S.2.2.2.2 _ m_89) rfl (by decide +kernel) ⟨Nat.le_of_ble_eq_true rfl, Nat.le_of_ble_eq_true rfl⟩) ⟨fun a U g mk q => ⟨q.1, q.2.same⟩, fun U hU hw => ⟨rfl, GW.of hP hD hK hC hN hA hS hU hw⟩⟩ rfl rfl hl.1 rfl (lv_room (Nat.le_of_ble_eq_true rfl)) dX5_init_9 ⟨Nat.le_of_ble_eq_true rfl, Nat.le_of_ble_eq_true rfl⟩) hS (fun q _ h => h) (fun _ h => h) ?_
  intro u2 t H locs ht hvm _ hB _ _ hS
  obtain ⟨hP, hD, hK, -⟩ := hB
  rw [ht] at hP
  have hK := va_K.moved hvm.symm hK
  have hK : va_K D vwCl (tys) s := hK
  have hP : va_P D vwCl (ws ++ [(q, .inr (6, [.null])), (q1, .inr (0, [.int (0), .ref (kk 41), .int 0]))]) H := by have h := nP hP; exact h
  have hD : va_D A (ws ++ [(q, .inr (6, [.null])), (q1, .inr (0, [.int (0), .ref (kk 41), .int 0]))]) := by have h := nD hD; exact h
  refine va_putF (D := D) (ci := 6) (v := .ref q1) (ty := (.object "java/util/ArrayList")) (C := RX5) (T := TX5) (N := 1) S.1 S.2.1 S.2.2.2.2 inX5 tyX5 tyX5_ok nmX5 S.2.2.2.1 hK hP hD hS (ws.length + 0) (tl_at ws _ 0 rfl) rfl 0 (by decide) (S.2.2.2.2 _ m_108) (fun _ h => h) rfl hnm rfl (by decide +kernel) rfl rfl (Nat.le_of_ble_eq_true rfl) dX5_init_12 (fun H locs hP hD hS => ?_)
  have hP : va_P D vwCl (ws ++ [(q, .inr (6, [.ref q1])), (q1, .inr (0, [.int (0), .ref (kk 41), .int 0]))]) H := by have h := nSP hP; exact h
  have hD : va_D A (ws ++ [(q, .inr (6, [.ref q1])), (q1, .inr (0, [.int (0), .ref (kk 41), .int 0]))]) := by have h := nSD hD; exact h
  exact W.vret S.1 S.2.1 hr (fun t ht hw => ⟨⟨(fun k => match k with | 0 => q1 | _ => 0, fun _ => 0, fun _ => none), rfl, trivial, GW.of hP hD hK hC hN hA hS ht hw⟩, hS.F ht⟩) hS.2.2 dX5_init_15 hlk

