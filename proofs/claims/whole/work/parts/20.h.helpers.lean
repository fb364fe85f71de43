
/-! the law's helpers: what may throw, caught; the answer goes into out[0] -/
def lo1 (o : Option Int64) : Int32 := match o with | none => 1 | some _ => 0
def lov (ov : Nat → Int64) (o : Option Int64) : Nat → Int64 := match o with | none => ov | some v => vp_updL ov 0 v
def MiW (l : Launch) (y : MethodName) (b : ByteArray) (n : Nat) (hh : List (Nat × Nat × Nat × Nat)) (rm : Room) (As : List Value) (P : State → Prop) (r : Int32) (P' : State → Prop) (A : Nat → Prop) : Prop := Met l y (Cond.codeWith y b n (some .int) hh :: wsL) rm (va_Pc As P) (va_Qi (fun x (_ : Unit) => x = r) (fun _ t => P' t) A) 1 6 A
theorem MiW.of {l : Launch} {y : MethodName} {b : ByteArray} {n : Nat} {hh : List (Nat × Nat × Nat × Nat)} {rm : Room} {As : List Value} {P : State → Prop} {r : Int32} {P' : State → Prop} {A : Nat → Prop} {own : String} (ho : y.cls = own) (hy : plainName y.cls = true) (hAs : (lg_sl As).length ≤ n)
    (body : ∀ (p : Program) (e : Env) (s : State) (m : MethodId) (args : Array Value) (below : List Frame) (meth : Method) (c : Code) (ls : Array Slot), CallFix p m c b n s args wsL own → meth.sig.returnType = some .int → meth.locks = false → c.exceptionTable.toList = tableOf hh → P s → lv_has ls n (lv_args 0 As) → W p l e rm s m args below meth c s.heap [] 0 0 (MQ below (va_Qi (fun x (_ : Unit) => x = r) (fun _ t => P' t) A) args s 1 6 A) (F0 m 0 ls [])) : MiW l y b n hh rm As P r P' A := by
  subst ho
  refine va_MetW (cc := b) (maxL := n) (ret := some .int) (hh := hh) hy rfl ?_
  intro p e s m args below meth c s₁ B hml hv
  obtain ⟨rfl, hP⟩ := hv
  have hts := atoms_spec (ws := Cond.codeWith y b n (some .int) hh :: wsL) B.pre
  rw [lg_entry_eq]
  exact body p e s m _ below meth c _ ⟨B.exec, B.bytes, hml, findClass_of_methodNamed B.named, fun w h => hts w (List.mem_cons_of_mem _ h)⟩ B.returns B.notSynchronized (vx_table (x := y) B (hts _ List.mem_cons_self)) hP (lv_entry As hAs)
set_option maxRecDepth 100000 in
set_option maxHeartbeats 4000000 in
theorem cH_member (l : Launch) (hst : l.stackTraces = false) (D : va_G) (ad : Nat → Nat) (cA : Nat → ClassId) (kk : Nat → Nat) (A : Nat → Prop) (aM aC aE : Nat → Nat) {aO : Nat} {cO : ClassId} {ov : Nat → Int64} {σ : SC} {a1 a2 : Int32} {o : Option Int64} (hF : fC_B_member σ a1 a2 = some o) : MiW l yL_member cL_member 5 [(0, 9, 12, 13)] { frames := 7, cells := 1, slots := 6, locals := 108 } [.ref (ad 0), .int a1, .int a2, .ref aO] (fun U => CP D ad cA kk A aM aC aE [(aO, .inl (cO, 1, .inr (.inl ov)))] σ U ∧ TL A U U.heap ∧ va_K D vwCl [(cO, .long)] U) (lo1 o) (CP D ad cA kk A aM aC aE [(aO, .inl (cO, 1, .inr (.inl (lov ov o))))] σ) A := by
  refine MiW.of (own := RL) rfl (by decide +kernel) (Nat.le_of_ble_eq_true rfl) ?_
  intro p e s m args below meth c ls S hr hlk hct hP0 hl
  obtain ⟨hP0, hT, hK2⟩ := hP0
  have hW := CW.start hP0
  have hl : lv_has ls 5 [(0, .ref (ad 0)), (1, .int a1), (2, .int a2), (3, .ref aO)] := hl
  refine lv_aload_n S.1 S.2.1 dL_member_0 rfl (lv_at hl 3 rfl) ?_
  refine lv_iconst (v := (0 : Int32)) S.1 S.2.1 dL_member_1 (by decide) ?_
  refine lv_aload_n S.1 S.2.1 dL_member_2 rfl (lv_at hl 0 rfl) ?_
  refine lv_iload_n S.1 S.2.1 dL_member_3 rfl (lv_at hl 1 rfl) ?_
  refine lv_iload_n S.1 S.2.1 dL_member_4 rfl (lv_at hl 2 rfl) ?_
  obtain ⟨lm, la, lc, lr, hP1, hD1, hL1⟩ := hW.1
  refine vx_calll (vx_runV (As := [.int a1, .int a2]) (rest := [.int 0, .ref aO]) (n := 2) S (cC_B_member l hst D ad cA kk A aM aC aE [(aO, .inl (cO, 1, .inr (.inl ov)))] hF) (cwV 2 S.2.2.2.2 (gd_V m_656 m_657 m_658 m_2 m_659) rfl rfl rfl (by decide +kernel) ⟨(Nat.le_of_ble_eq_true rfl), (Nat.le_of_ble_eq_true rfl)⟩) ⟨fun a U g mk q => ⟨q.1, q.2.1.same, q.2.2.same⟩, va_recv hW.2.1.1 hP1 (ci := 11) (q0 := 0) rfl rfl, fun U hU hw => ⟨rfl, hW.done hU hw, hT.kept hW.2.2.2 hU hw⟩⟩ rfl rfl hl.1 rfl (lv_room (Nat.le_of_ble_eq_true rfl)) dL_member_5 ⟨(Nat.le_of_ble_eq_true rfl), (Nat.le_of_ble_eq_true rfl)⟩) hW.2.2.2 (fun q _ h => h) (fun _ h => h) (fun q _ h => h) ?_ ?_
  · intro E ce q9 u t H1 locs1 ht hvm hp hB _ _ hS hce hcv hcl
    obtain ⟨rfl, hB⟩ := hB
    cases hp
    have hW := CW.after hW.2.1 ht hB hS
    refine vx_catch (name := nse) S.2.2.2.1 [] ⟨0, 9, 12, 13⟩ [] hct (fun z hz => nomatch hz) (by decide) (by decide) (S.2.2.2.2 _ m_655) (hW.2.1.2.2.1.use nw_59) hce hcv hcl ?_
    refine lv_astore (lv' := (4, .ref q9) :: [(0, .ref (ad 0)), (1, .int a1), (2, .int a2), (3, .ref aO)]) S.1 S.2.1 dL_member_12 hl (by decide) rfl (fun ls hl => ?_)
    refine lv_iconst (v := (1 : Int32)) S.1 S.2.1 dL_member_14 (by decide) ?_
    exact W.zret S.1 S.2.1 hr rfl (fun t ht hw => ⟨⟨1, (), rfl, rfl, hW.done ht hw⟩, hW.2.2.2.F ht⟩) hW.2.2.2.2.2 dL_member_15 hlk
  · intro r u t H1 locs1 ht hvm hp hB _ _ hS
    subst hp
    have hW := CW.after hW.2.1 ht hB hS
    obtain ⟨⟨lm, la, lc, lr, hP1, hD1, hL1⟩, hE, hWf, hS1⟩ := hW
    rw [show ([(aO, .inl (cO, 1, .inr (.inl ov)))] : va_W) = [] ++ [(aO, .inl (cO, 1, .inr (.inl ov)))] from rfl, ← ccells_app] at hP1 hD1
    refine va_last (D := D) S.1 S.2.1 hK2 hP1 hD1 hS1 _ 0 (at_last _ _) rfl (i := 0) (nI_in (c := 0) (N := 1) (by decide) (by decide)) dL_member_8 (fun H locs hP hD hS => ?_)
    rw [set_last, ccells_app] at hP hD
    have hW : CW D ad cA kk A aM aC aE [(aO, .inl (cO, 1, .inr (.inl (vp_updL ov 0 r))))] σ s H locs := ⟨⟨lm, la, lc, lr, hP, hD, hL1⟩, hE, hWf, hS⟩
    refine lv_goto (tgt := 16) S.1 S.2.1 dL_member_9 (by decide) ?_
    refine lv_iconst (v := (0 : Int32)) S.1 S.2.1 dL_member_16 (by decide) ?_
    exact W.zret S.1 S.2.1 hr rfl (fun t ht hw => ⟨⟨0, (), rfl, rfl, hW.done ht hw⟩, hW.2.2.2.F ht⟩) hW.2.2.2.2.2 dL_member_17 hlk
set_option maxRecDepth 100000 in
set_option maxHeartbeats 4000000 in
theorem cH_entry (l : Launch) (hst : l.stackTraces = false) (D : va_G) (ad : Nat → Nat) (cA : Nat → ClassId) (kk : Nat → Nat) (A : Nat → Prop) (aM aC aE : Nat → Nat) {aO : Nat} {cO : ClassId} {ov : Nat → Int64} {σ : SC} {a1 a2 : Int32} {o : Option Int64} (hF : fC_B_entry σ a1 a2 = some o) : MiW l yL_entry cL_entry 5 [(0, 9, 12, 13)] { frames := 7, cells := 1, slots := 6, locals := 108 } [.ref (ad 0), .int a1, .int a2, .ref aO] (fun U => CP D ad cA kk A aM aC aE [(aO, .inl (cO, 1, .inr (.inl ov)))] σ U ∧ TL A U U.heap ∧ va_K D vwCl [(cO, .long)] U) (lo1 o) (CP D ad cA kk A aM aC aE [(aO, .inl (cO, 1, .inr (.inl (lov ov o))))] σ) A := by
  refine MiW.of (own := RL) rfl (by decide +kernel) (Nat.le_of_ble_eq_true rfl) ?_
  intro p e s m args below meth c ls S hr hlk hct hP0 hl
  obtain ⟨hP0, hT, hK2⟩ := hP0
  have hW := CW.start hP0
  have hl : lv_has ls 5 [(0, .ref (ad 0)), (1, .int a1), (2, .int a2), (3, .ref aO)] := hl
  refine lv_aload_n S.1 S.2.1 dL_entry_0 rfl (lv_at hl 3 rfl) ?_
  refine lv_iconst (v := (0 : Int32)) S.1 S.2.1 dL_entry_1 (by decide) ?_
  refine lv_aload_n S.1 S.2.1 dL_entry_2 rfl (lv_at hl 0 rfl) ?_
  refine lv_iload_n S.1 S.2.1 dL_entry_3 rfl (lv_at hl 1 rfl) ?_
  refine lv_iload_n S.1 S.2.1 dL_entry_4 rfl (lv_at hl 2 rfl) ?_
  obtain ⟨lm, la, lc, lr, hP1, hD1, hL1⟩ := hW.1
  refine vx_calll (vx_runV (As := [.int a1, .int a2]) (rest := [.int 0, .ref aO]) (n := 2) S (cC_B_entry l hst D ad cA kk A aM aC aE [(aO, .inl (cO, 1, .inr (.inl ov)))] hF) (cwV 2 S.2.2.2.2 (gd_V m_826 m_827 m_828 m_2 m_829) rfl rfl rfl (by decide +kernel) ⟨(Nat.le_of_ble_eq_true rfl), (Nat.le_of_ble_eq_true rfl)⟩) ⟨fun a U g mk q => ⟨q.1, q.2.1.same, q.2.2.same⟩, va_recv hW.2.1.1 hP1 (ci := 11) (q0 := 0) rfl rfl, fun U hU hw => ⟨rfl, hW.done hU hw, hT.kept hW.2.2.2 hU hw⟩⟩ rfl rfl hl.1 rfl (lv_room (Nat.le_of_ble_eq_true rfl)) dL_entry_5 ⟨(Nat.le_of_ble_eq_true rfl), (Nat.le_of_ble_eq_true rfl)⟩) hW.2.2.2 (fun q _ h => h) (fun _ h => h) (fun q _ h => h) ?_ ?_
  · intro E ce q9 u t H1 locs1 ht hvm hp hB _ _ hS hce hcv hcl
    obtain ⟨rfl, hB⟩ := hB
    cases hp
    have hW := CW.after hW.2.1 ht hB hS
    refine vx_catch (name := nse) S.2.2.2.1 [] ⟨0, 9, 12, 13⟩ [] hct (fun z hz => nomatch hz) (by decide) (by decide) (S.2.2.2.2 _ m_655) (hW.2.1.2.2.1.use nw_59) hce hcv hcl ?_
    refine lv_astore (lv' := (4, .ref q9) :: [(0, .ref (ad 0)), (1, .int a1), (2, .int a2), (3, .ref aO)]) S.1 S.2.1 dL_entry_12 hl (by decide) rfl (fun ls hl => ?_)
    refine lv_iconst (v := (1 : Int32)) S.1 S.2.1 dL_entry_14 (by decide) ?_
    exact W.zret S.1 S.2.1 hr rfl (fun t ht hw => ⟨⟨1, (), rfl, rfl, hW.done ht hw⟩, hW.2.2.2.F ht⟩) hW.2.2.2.2.2 dL_entry_15 hlk
  · intro r u t H1 locs1 ht hvm hp hB _ _ hS
    subst hp
    have hW := CW.after hW.2.1 ht hB hS
    obtain ⟨⟨lm, la, lc, lr, hP1, hD1, hL1⟩, hE, hWf, hS1⟩ := hW
    rw [show ([(aO, .inl (cO, 1, .inr (.inl ov)))] : va_W) = [] ++ [(aO, .inl (cO, 1, .inr (.inl ov)))] from rfl, ← ccells_app] at hP1 hD1
    refine va_last (D := D) S.1 S.2.1 hK2 hP1 hD1 hS1 _ 0 (at_last _ _) rfl (i := 0) (nI_in (c := 0) (N := 1) (by decide) (by decide)) dL_entry_8 (fun H locs hP hD hS => ?_)
    rw [set_last, ccells_app] at hP hD
    have hW : CW D ad cA kk A aM aC aE [(aO, .inl (cO, 1, .inr (.inl (vp_updL ov 0 r))))] σ s H locs := ⟨⟨lm, la, lc, lr, hP, hD, hL1⟩, hE, hWf, hS⟩
    refine lv_goto (tgt := 16) S.1 S.2.1 dL_entry_9 (by decide) ?_
    refine lv_iconst (v := (0 : Int32)) S.1 S.2.1 dL_entry_16 (by decide) ?_
    exact W.zret S.1 S.2.1 hr rfl (fun t ht hw => ⟨⟨0, (), rfl, rfl, hW.done ht hw⟩, hW.2.2.2.F ht⟩) hW.2.2.2.2.2 dL_entry_17 hlk
set_option maxRecDepth 100000 in
set_option maxHeartbeats 4000000 in
theorem cH_balance (l : Launch) (hst : l.stackTraces = false) (D : va_G) (ad : Nat → Nat) (cA : Nat → ClassId) (kk : Nat → Nat) (A : Nat → Prop) (aM aC aE : Nat → Nat) {aO : Nat} {cO : ClassId} {ov : Nat → Int64} {σ : SC} {a1 a2 a3 : Int32} {o : Option Int64} (hF : fC_B_balance σ a1 a2 a3 = some o) : MiW l yL_balance cL_balance 6 [(0, 11, 14, 13)] { frames := 7, cells := 1, slots := 6, locals := 115 } [.ref (ad 0), .int a1, .int a2, .int a3, .ref aO] (fun U => CP D ad cA kk A aM aC aE [(aO, .inl (cO, 1, .inr (.inl ov)))] σ U ∧ TL A U U.heap ∧ va_K D vwCl [(cO, .long)] U) (lo1 o) (CP D ad cA kk A aM aC aE [(aO, .inl (cO, 1, .inr (.inl (lov ov o))))] σ) A := by
  refine MiW.of (own := RL) rfl (by decide +kernel) (Nat.le_of_ble_eq_true rfl) ?_
  intro p e s m args below meth c ls S hr hlk hct hP0 hl
  obtain ⟨hP0, hT, hK2⟩ := hP0
  have hW := CW.start hP0
  have hl : lv_has ls 6 [(0, .ref (ad 0)), (1, .int a1), (2, .int a2), (3, .int a3), (4, .ref aO)] := hl
  refine lv_aload S.1 S.2.1 dL_balance_0 (lv_at hl 4 rfl) ?_
  refine lv_iconst (v := (0 : Int32)) S.1 S.2.1 dL_balance_2 (by decide) ?_
  refine lv_aload_n S.1 S.2.1 dL_balance_3 rfl (lv_at hl 0 rfl) ?_
  refine lv_iload_n S.1 S.2.1 dL_balance_4 rfl (lv_at hl 1 rfl) ?_
  refine lv_iload_n S.1 S.2.1 dL_balance_5 rfl (lv_at hl 2 rfl) ?_
  refine lv_iload_n S.1 S.2.1 dL_balance_6 rfl (lv_at hl 3 rfl) ?_
  obtain ⟨lm, la, lc, lr, hP1, hD1, hL1⟩ := hW.1
  refine vx_calll (vx_runV (As := [.int a1, .int a2, .int a3]) (rest := [.int 0, .ref aO]) (n := 3) S (cC_B_balance l hst D ad cA kk A aM aC aE [(aO, .inl (cO, 1, .inr (.inl ov)))] hF) (cwV 3 S.2.2.2.2 (gd_V m_855 m_856 m_857 m_2 m_858) rfl rfl rfl (by decide +kernel) ⟨(Nat.le_of_ble_eq_true rfl), (Nat.le_of_ble_eq_true rfl)⟩) ⟨fun a U g mk q => ⟨q.1, q.2.1.same, q.2.2.same⟩, va_recv hW.2.1.1 hP1 (ci := 11) (q0 := 0) rfl rfl, fun U hU hw => ⟨rfl, hW.done hU hw, hT.kept hW.2.2.2 hU hw⟩⟩ rfl rfl hl.1 rfl (lv_room (Nat.le_of_ble_eq_true rfl)) dL_balance_7 ⟨(Nat.le_of_ble_eq_true rfl), (Nat.le_of_ble_eq_true rfl)⟩) hW.2.2.2 (fun q _ h => h) (fun _ h => h) (fun q _ h => h) ?_ ?_
  · intro E ce q9 u t H1 locs1 ht hvm hp hB _ _ hS hce hcv hcl
    obtain ⟨rfl, hB⟩ := hB
    cases hp
    have hW := CW.after hW.2.1 ht hB hS
    refine vx_catch (name := nse) S.2.2.2.1 [] ⟨0, 11, 14, 13⟩ [] hct (fun z hz => nomatch hz) (by decide) (by decide) (S.2.2.2.2 _ m_655) (hW.2.1.2.2.1.use nw_59) hce hcv hcl ?_
    refine lv_astore (lv' := (5, .ref q9) :: [(0, .ref (ad 0)), (1, .int a1), (2, .int a2), (3, .int a3), (4, .ref aO)]) S.1 S.2.1 dL_balance_14 hl (by decide) rfl (fun ls hl => ?_)
    refine lv_iconst (v := (1 : Int32)) S.1 S.2.1 dL_balance_16 (by decide) ?_
    exact W.zret S.1 S.2.1 hr rfl (fun t ht hw => ⟨⟨1, (), rfl, rfl, hW.done ht hw⟩, hW.2.2.2.F ht⟩) hW.2.2.2.2.2 dL_balance_17 hlk
  · intro r u t H1 locs1 ht hvm hp hB _ _ hS
    subst hp
    have hW := CW.after hW.2.1 ht hB hS
    obtain ⟨⟨lm, la, lc, lr, hP1, hD1, hL1⟩, hE, hWf, hS1⟩ := hW
    rw [show ([(aO, .inl (cO, 1, .inr (.inl ov)))] : va_W) = [] ++ [(aO, .inl (cO, 1, .inr (.inl ov)))] from rfl, ← ccells_app] at hP1 hD1
    refine va_last (D := D) S.1 S.2.1 hK2 hP1 hD1 hS1 _ 0 (at_last _ _) rfl (i := 0) (nI_in (c := 0) (N := 1) (by decide) (by decide)) dL_balance_10 (fun H locs hP hD hS => ?_)
    rw [set_last, ccells_app] at hP hD
    have hW : CW D ad cA kk A aM aC aE [(aO, .inl (cO, 1, .inr (.inl (vp_updL ov 0 r))))] σ s H locs := ⟨⟨lm, la, lc, lr, hP, hD, hL1⟩, hE, hWf, hS⟩
    refine lv_goto (tgt := 18) S.1 S.2.1 dL_balance_11 (by decide) ?_
    refine lv_iconst (v := (0 : Int32)) S.1 S.2.1 dL_balance_18 (by decide) ?_
    exact W.zret S.1 S.2.1 hr rfl (fun t ht hw => ⟨⟨0, (), rfl, rfl, hW.done ht hw⟩, hW.2.2.2.F ht⟩) hW.2.2.2.2.2 dL_balance_19 hlk
