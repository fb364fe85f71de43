/-! the law's world: the class's cells, the reference's cells, out, what is read only; s is the law's start -/
def L0 (s : State) : Nat → Prop := fun q => s.heap.size ≤ q
def LA (s : State) (adR : Nat → Nat) : Nat → Prop := fun q => s.heap.size ≤ q ∧ ¬ RA adR q
abbrev xO (aO : Nat) (cO : ClassId) (ov : Nat → Int64) : va_W := [(aO, .inl (cO, 1, .inr (.inl ov)))]
def LF (D : va_G) (cA cR : Nat → ClassId) (adR kk : Nat → Nat) (cO : ClassId) (s : State) : Prop := RD adR ∧ (∀ q, RA adR q → s.heap.size ≤ q) ∧ va_K D vwCl (ctys cA) s ∧ va_K D vwCl (rtys cR) s ∧ va_K D vwCl [(cO, .long)] s ∧ KC (L0 s) kk s ∧ NW s ∧ TL (L0 s) s s.heap
def LW (D : va_G) (ad : Nat → Nat) (cA cR : Nat → ClassId) (adR kk : Nat → Nat) (aO : Nat) (cO : ClassId) (aM aC aE : Nat → Nat) (ov : Nat → Int64) (σ : SC) (ρ : SR) (s : State) (H : Heap) (locs : List Loc) : Prop :=
  CI D ad cA kk (LA s adR) aM aC aE (xO aO cO ov) σ s H ∧ va_P D vwCl (rcells adR cR ρ) H ∧ WF σ ∧ va_S (L0 s) s.heap H locs
theorem TL.narrow {A B : Nat → Prop} {U : State} {H : Heap} (h : TL A U H) (hAB : ∀ q, B q → A q) : TL B U H := ⟨h.1.narrow hAB, h.2.narrow hAB⟩
section LWS
variable {p : Program} {l : Launch} {e : Env} {R : Room} {s : State} {m : MethodId} {args : Array Value} {below : List Frame} {meth : Method} {c : Code} {H : Heap} {locs : List Loc} {Q : State → Prop} {cc : ByteArray} {nL pc : Nat} {ls : Array Slot} {rest st : List Value}
variable {D : va_G} {ad : Nat → Nat} {cA cR : Nat → ClassId} {adR kk : Nat → Nat} {aO : Nat} {cO : ClassId} {aM aC aE : Nat → Nat} {ov : Nat → Int64} {σ σ' : SC} {ρ ρ' : SR}
theorem rc_lt {q : Nat} (hP : va_P D vwCl (rcells adR cR ρ) H) (h : RA adR q) : q < H.size := by
  obtain ⟨k, hk, rfl⟩ := h
  have h1 : k ∈ rpl := hk
  obtain ⟨i, hi⟩ := List.mem_iff_getElem?.mp h1
  have h2 : ((rcells adR cR ρ).map (fun q => q.1))[i]? = some (adR k) := by rw [rcells_ad, List.getElem?_map, hi]; rfl
  rw [List.getElem?_map] at h2
  cases h3 : (rcells adR cR ρ)[i]? with
  | none => rw [h3] at h2; cases h2
  | some x => rw [h3] at h2; exact (Option.some.inj h2) ▸ (hP i x h3).lt
theorem rc_ra {k : Nat} {x : Nat × va_E} (h : (rcells adR cR ρ)[k]? = some x) : RA adR x.1 := by
  obtain ⟨j, h1, h2⟩ := rcells_at h
  exact ⟨j, List.mem_of_getElem? h1, h2⟩
theorem LW.cp (hF : LF D cA cR adR kk cO s) (hW : LW D ad cA cR adR kk aO cO aM aC aE ov σ ρ s H locs) {U : State} (hU : U.heap = H) (hw : s.WarmedH U.vm) : CP D ad cA kk (LA s adR) aM aC aE (xO aO cO ov) σ U := by
  obtain ⟨-, -, hK, -, -, hC, hN, -⟩ := hF
  obtain ⟨hI, hP, hWf, hS⟩ := hW
  refine ⟨hI.at hU, ⟨va_K.moved hw.alike hK, (hC.kept hS hU hw).narrow (fun q h => h.1), hN.warm hw, fun q hq => ?_⟩, hWf⟩
  rw [hU] at hq
  exact ⟨Nat.le_trans hS.1 hq, fun h => absurd (rc_lt hP h) (Nat.not_lt.mpr hq)⟩
theorem LW.rp (hF : LF D cA cR adR kk cO s) (hW : LW D ad cA cR adR kk aO cO aM aC aE ov σ ρ s H locs) {U : State} (hU : U.heap = H) (hw : s.WarmedH U.vm) : RP D adR cR kk ρ U :=
  ⟨by rw [hU]; exact hW.2.1, va_K.moved hw.alike hF.2.2.2.1, (hF.2.2.2.2.2.1.kept hW.2.2.2 hU hw).narrow (fun q h => hF.2.1 q h)⟩
theorem LW.tl (hF : LF D cA cR adR kk cO s) (hW : LW D ad cA cR adR kk aO cO aM aC aE ov σ ρ s H locs) {U : State} (hU : U.heap = H) (hw : s.WarmedH U.vm) : TL (LA s adR) U U.heap := (hF.2.2.2.2.2.2.2.kept hW.2.2.2 hU hw).narrow (fun q h => h.1)
theorem LW.recvC (hF : LF D cA cR adR kk cO s) (hW : LW D ad cA cR adR kk aO cO aM aC aE ov σ ρ s H locs) : ∃ cellB : Cell, H[ad 0]? = some cellB ∧ cellB.vm.isStatics = false ∧ s.vm.findClass RX10 = some cellB.cls := by
  obtain ⟨⟨lm, la, lc, lr, hP, -⟩, -⟩ := hW
  exact va_recv hF.2.2.1 hP (ci := 11) (q0 := 0) rfl rfl
theorem LW.recvR (hF : LF D cA cR adR kk cO s) (hW : LW D ad cA cR adR kk aO cO aM aC aE ov σ ρ s H locs) : ∃ cellB : Cell, H[adR 35]? = some cellB ∧ cellB.vm.isStatics = false ∧ s.vm.findClass RX11 = some cellB.cls := va_recv hF.2.2.2.1 hW.2.1 (ci := 12) (q0 := 0) rfl rfl
/-- behind a call of the class -/
theorem LW.afterC {aM1 aC1 aE1 : Nat → Nat} {ov1 : Nat → Int64} (hW : LW D ad cA cR adR kk aO cO aM aC aE ov σ ρ s H locs) {t : State} {H1 : Heap} {locs1 : List Loc} (ht : t.heap = H1) (hB : CP D ad cA kk (LA s adR) aM1 aC1 aE1 (xO aO cO ov1) σ' t) (hk : ∀ q : Nat, q < H.size → ¬ LA s adR q → H1[q]? = H[q]?) (hS : va_S (L0 s) s.heap H1 locs1) : LW D ad cA cR adR kk aO cO aM1 aC1 aE1 ov1 σ' ρ s H1 locs1 :=
  ⟨by rw [← ht]; exact hB.1, hW.2.1.kept (fun k x hx => hk x.1 (hW.2.1 k x hx).lt (fun h => h.2 (rc_ra hx))), hB.2.2, hS⟩
/-- behind a call of the reference -/
theorem LW.afterR (hW : LW D ad cA cR adR kk aO cO aM aC aE ov σ ρ s H locs) {t : State} {H1 : Heap} {locs1 : List Loc} (ht : t.heap = H1) (hB : RP D adR cR kk ρ' t) (hk : ∀ q : Nat, q < H.size → ¬ RA adR q → H1[q]? = H[q]?) (hS : va_S (L0 s) s.heap H1 locs1) : LW D ad cA cR adR kk aO cO aM aC aE ov σ ρ' s H1 locs1 := by
  obtain ⟨⟨lm, la, lc, lr, hP, hD, hL⟩, -, hWf, -⟩ := hW
  exact ⟨⟨lm, la, lc, lr, hP.kept (fun k x hx => hk x.1 (hP k x hx).lt (hD.2 k x hx).2), hD, hL⟩, by rw [← ht]; exact hB.1, hWf, hS⟩
variable {y : MethodName} {b : ByteArray} {n k idx fr lo cells slots : Nat} {As : List Value} {rt : FieldType}
/-- a call of the class that makes nothing -/
theorem kc_ci {r : Int32} (hF : LF D cA cR adR kk cO s) (hM : Mi l y b n rt { frames := fr, cells := 0, slots := 0, locals := lo } (.ref (ad 0) :: As) (CP D ad cA kk (LA s adR) aM aC aE (xO aO cO ov) σ) r (CP D ad cA kk (LA s adR) aM aC aE (xO aO cO ov) σ') (LA s adR)) (S : CallFix p m c cc nL s args wsL RL) (hW : LW D ad cA cR adR kk aO cO aM aC aE ov σ ρ s H locs) (hG : GoodIn wsL (wsV RL idx RX10 y (Cond.code y b n (some rt) :: wsL)))
    (hdd : y.cls = RX10 ∧ y.cls ≠ "java/lang/invoke/MethodHandle" ∧ y.cls ≠ "java/lang/invoke/VarHandle" ∧ (parseMethodDescriptor y.desc).map (fun d => d.parameters.length) = some k) (hR : fr + 1 ≤ R.frames ∧ 8 + (n + 11) + lo ≤ R.locals) (hk : As.length = k) (hsz : ls.size = nL) (hst : st = As.reverse ++ .ref (ad 0) :: rest) (hrm : (rest.map fun v => v.category).sum ≤ 8) (hcs : cells ≤ R.cells ∧ slots ≤ R.slots) (hdg : decode cc pc = .ok (.invokevirtual idx, 3))
    (kq : ∀ (H1 : Heap) (locs1 : List Loc), LW D ad cA cR adR kk aO cO aM aC aE ov σ' ρ s H1 locs1 → W p l e R s m args below meth c H1 locs1 cells slots Q (F0 m (pc + 3) ls (.int r :: rest))) : W p l e R s m args below meth c H locs cells slots Q (F0 m pc ls st) := by
  refine va_calli (va_runV (As := As) (rest := rest) (n := k) S hM (cwV k S.2.2.2.2 hG rfl rfl rfl hdd hR) ⟨fun a U g mk q => ⟨q.1, q.2.same⟩, hW.recvC hF, fun U hU hw => ⟨rfl, hW.cp hF hU hw⟩⟩ rfl hk hsz hst (lv_room hrm) hdg hcs) hW.2.2.2 (fun q _ h => h.1) (fun _ h => h.1) ?_
  intro r' u t H1 locs1 ht hvm hw hB _ hkp hS
  subst hw
  exact kq H1 locs1 (hW.afterC ht hB hkp hS)
theorem kc_cl {r : Int64} (hF : LF D cA cR adR kk cO s) (hM : Ml l y b n { frames := fr, cells := 0, slots := 0, locals := lo } (.ref (ad 0) :: As) (CP D ad cA kk (LA s adR) aM aC aE (xO aO cO ov) σ) r (CP D ad cA kk (LA s adR) aM aC aE (xO aO cO ov) σ') (LA s adR)) (S : CallFix p m c cc nL s args wsL RL) (hW : LW D ad cA cR adR kk aO cO aM aC aE ov σ ρ s H locs) (hG : GoodIn wsL (wsV RL idx RX10 y (Cond.code y b n (some .long) :: wsL)))
    (hdd : y.cls = RX10 ∧ y.cls ≠ "java/lang/invoke/MethodHandle" ∧ y.cls ≠ "java/lang/invoke/VarHandle" ∧ (parseMethodDescriptor y.desc).map (fun d => d.parameters.length) = some k) (hR : fr + 1 ≤ R.frames ∧ 8 + (n + 11) + lo ≤ R.locals) (hk : As.length = k) (hsz : ls.size = nL) (hst : st = As.reverse ++ .ref (ad 0) :: rest) (hrm : (rest.map fun v => v.category).sum ≤ 8) (hcs : cells ≤ R.cells ∧ slots ≤ R.slots) (hdg : decode cc pc = .ok (.invokevirtual idx, 3))
    (kq : ∀ (H1 : Heap) (locs1 : List Loc), LW D ad cA cR adR kk aO cO aM aC aE ov σ' ρ s H1 locs1 → W p l e R s m args below meth c H1 locs1 cells slots Q (F0 m (pc + 3) ls (.long r :: rest))) : W p l e R s m args below meth c H locs cells slots Q (F0 m pc ls st) := by
  refine va_calll (va_runV (As := As) (rest := rest) (n := k) S hM (cwV k S.2.2.2.2 hG rfl rfl rfl hdd hR) ⟨fun a U g mk q => ⟨q.1, q.2.same⟩, hW.recvC hF, fun U hU hw => ⟨rfl, hW.cp hF hU hw⟩⟩ rfl hk hsz hst (lv_room hrm) hdg hcs) hW.2.2.2 (fun q _ h => h.1) (fun _ h => h.1) ?_
  intro r' u t H1 locs1 ht hvm hw hB _ hkp hS
  subst hw
  exact kq H1 locs1 (hW.afterC ht hB hkp hS)
/-- a call of the class that makes things -/
theorem kc_ei {r : Int32} {G : T3 → Prop} (hF : LF D cA cR adR kk cO s) (hM : MiE G l y b n fr lo (.ref (ad 0) :: As) D ad cA kk (LA s adR) aM aC aE (xO aO cO ov) σ r σ') (S : CallFix p m c cc nL s args wsL RL) (hW : LW D ad cA cR adR kk aO cO aM aC aE ov σ ρ s H locs) (hG : GoodIn wsL (wsV RL idx RX10 y (Cond.code y b n (some .int) :: wsL)))
    (hdd : y.cls = RX10 ∧ y.cls ≠ "java/lang/invoke/MethodHandle" ∧ y.cls ≠ "java/lang/invoke/VarHandle" ∧ (parseMethodDescriptor y.desc).map (fun d => d.parameters.length) = some k) (hR : fr + 1 ≤ R.frames ∧ 8 + (n + 11) + lo ≤ R.locals) (hk : As.length = k) (hsz : ls.size = nL) (hst : st = As.reverse ++ .ref (ad 0) :: rest) (hrm : (rest.map fun v => v.category).sum ≤ 8) (hcs : cells + 2 * (1001 - nn σ) ≤ R.cells ∧ slots + 1300 * (1001 - nn σ) ≤ R.slots) (hdg : decode cc pc = .ok (.invokevirtual idx, 3))
    (kq : ∀ (aM1 aC1 aE1 : Nat → Nat) (H1 : Heap) (locs1 : List Loc), LW D ad cA cR adR kk aO cO aM1 aC1 aE1 ov σ' ρ s H1 locs1 → nn σ ≤ nn σ' → W p l e R s m args below meth c H1 locs1 (cells + cst σ σ') (slots + sst σ σ') Q (F0 m (pc + 3) ls (.int r :: rest))) : W p l e R s m args below meth c H locs cells slots Q (F0 m pc ls st) := by
  refine va_calli (va_runV2 (As := As) (rest := rest) (n := k) S hM (cwV k S.2.2.2.2 hG rfl rfl rfl hdd hR) ⟨fun a U g mk q => ⟨q.1, q.2.same⟩, hW.recvC hF, fun U hU hw => ⟨rfl, hW.cp hF hU hw⟩⟩ rfl hk hsz hst (lv_room hrm) hdg hcs) hW.2.2.2 (fun q _ h => h.1) (fun _ h => h.1) ?_
  intro r' u t H1 locs1 ht hvm hw hB _ hkp hS
  obtain ⟨rfl, -, hl1⟩ := hw
  exact kq u.1 u.2.1 u.2.2 H1 locs1 (hW.afterC ht hB hkp hS) hl1
theorem kc_el {r : Int64} {G : T3 → Prop} (hF : LF D cA cR adR kk cO s) (hM : MlE G l y b n fr lo (.ref (ad 0) :: As) D ad cA kk (LA s adR) aM aC aE (xO aO cO ov) σ r σ') (S : CallFix p m c cc nL s args wsL RL) (hW : LW D ad cA cR adR kk aO cO aM aC aE ov σ ρ s H locs) (hG : GoodIn wsL (wsV RL idx RX10 y (Cond.code y b n (some .long) :: wsL)))
    (hdd : y.cls = RX10 ∧ y.cls ≠ "java/lang/invoke/MethodHandle" ∧ y.cls ≠ "java/lang/invoke/VarHandle" ∧ (parseMethodDescriptor y.desc).map (fun d => d.parameters.length) = some k) (hR : fr + 1 ≤ R.frames ∧ 8 + (n + 11) + lo ≤ R.locals) (hk : As.length = k) (hsz : ls.size = nL) (hst : st = As.reverse ++ .ref (ad 0) :: rest) (hrm : (rest.map fun v => v.category).sum ≤ 8) (hcs : cells + 2 * (1001 - nn σ) ≤ R.cells ∧ slots + 1300 * (1001 - nn σ) ≤ R.slots) (hdg : decode cc pc = .ok (.invokevirtual idx, 3))
    (kq : ∀ (aM1 aC1 aE1 : Nat → Nat) (H1 : Heap) (locs1 : List Loc), LW D ad cA cR adR kk aO cO aM1 aC1 aE1 ov σ' ρ s H1 locs1 → nn σ ≤ nn σ' → W p l e R s m args below meth c H1 locs1 (cells + cst σ σ') (slots + sst σ σ') Q (F0 m (pc + 3) ls (.long r :: rest))) : W p l e R s m args below meth c H locs cells slots Q (F0 m pc ls st) := by
  refine va_calll (va_runV2 (As := As) (rest := rest) (n := k) S hM (cwV k S.2.2.2.2 hG rfl rfl rfl hdd hR) ⟨fun a U g mk q => ⟨q.1, q.2.same⟩, hW.recvC hF, fun U hU hw => ⟨rfl, hW.cp hF hU hw⟩⟩ rfl hk hsz hst (lv_room hrm) hdg hcs) hW.2.2.2 (fun q _ h => h.1) (fun _ h => h.1) ?_
  intro r' u t H1 locs1 ht hvm hw hB _ hkp hS
  obtain ⟨rfl, -, hl1⟩ := hw
  exact kq u.1 u.2.1 u.2.2 H1 locs1 (hW.afterC ht hB hkp hS) hl1
/-- a helper of the law -/
theorem kc_h {r : Int32} {ov1 : Nat → Int64} {hh : List (Nat × Nat × Nat × Nat)} (hF : LF D cA cR adR kk cO s) (hM : MiW l y b n hh { frames := fr, cells := 1, slots := 6, locals := lo } As (fun U => CP D ad cA kk (LA s adR) aM aC aE (xO aO cO ov) σ U ∧ TL (LA s adR) U U.heap ∧ va_K D vwCl [(cO, .long)] U) r (CP D ad cA kk (LA s adR) aM aC aE (xO aO cO ov1) σ) (LA s adR)) (S : CallFix p m c cc nL s args wsL RL) (hW : LW D ad cA cR adR kk aO cO aM aC aE ov σ ρ s H locs) (hG : GoodIn wsL (va_wsS RL idx y (Cond.codeWith y b n (some .int) hh :: wsL)))
    (hdd : y.cls ≠ "java/lang/invoke/MethodHandle" ∧ y.cls ≠ "java/lang/invoke/VarHandle" ∧ (parseMethodDescriptor y.desc).map (fun d => d.parameters.length) = some k) (hR : fr + 1 ≤ R.frames ∧ 8 + (n + 11) + lo ≤ R.locals) (hk : As.length = k) (hsz : ls.size = nL) (hst : st = As.reverse ++ rest) (hrm : (rest.map fun v => v.category).sum ≤ 8) (hcs : cells + 1 ≤ R.cells ∧ slots + 6 ≤ R.slots) (hdg : decode cc pc = .ok (.invokestatic idx, 3))
    (kq : ∀ (H1 : Heap) (locs1 : List Loc), LW D ad cA cR adR kk aO cO aM aC aE ov1 σ ρ s H1 locs1 → W p l e R s m args below meth c H1 locs1 (cells + 1) (slots + 6) Q (F0 m (pc + 3) ls (.int r :: rest))) : W p l e R s m args below meth c H locs cells slots Q (F0 m pc ls st) := by
  refine va_calli (vx_runSW (As := As) (rest := rest) (n := k) S hM (vx_cwSW k S.2.2.2.2 hG rfl rfl rfl hdd hR) ⟨fun a U g mk q => ⟨q.1, q.2.1.same, q.2.2.1.same, va_K.moved (Vm.Alike.refl U.vm) q.2.2.2⟩, fun U hU hw => ⟨rfl, hW.cp hF hU hw, hW.tl hF hU hw, va_K.moved hw.alike hF.2.2.2.2.1⟩⟩ rfl hk hsz hst (lv_room hrm) hdg hcs) hW.2.2.2 (fun q _ h => h.1) (fun _ h => h.1) ?_
  intro r' u t H1 locs1 ht hvm hw hB _ hkp hS
  subst hw
  exact kq H1 locs1 (hW.afterC ht hB hkp hS)
/-- a call of the reference -/
theorem kc_ri {r : Int32} (hF : LF D cA cR adR kk cO s) (hM : Mi l y b n rt { frames := fr, cells := 0, slots := 0, locals := lo } (.ref (adR 35) :: As) (RP D adR cR kk ρ) r (RP D adR cR kk ρ') (RA adR)) (S : CallFix p m c cc nL s args wsL RL) (hW : LW D ad cA cR adR kk aO cO aM aC aE ov σ ρ s H locs) (hG : GoodIn wsL (wsV RL idx RX11 y (Cond.code y b n (some rt) :: wsL)))
    (hdd : y.cls = RX11 ∧ y.cls ≠ "java/lang/invoke/MethodHandle" ∧ y.cls ≠ "java/lang/invoke/VarHandle" ∧ (parseMethodDescriptor y.desc).map (fun d => d.parameters.length) = some k) (hR : fr + 1 ≤ R.frames ∧ 8 + (n + 11) + lo ≤ R.locals) (hk : As.length = k) (hsz : ls.size = nL) (hst : st = As.reverse ++ .ref (adR 35) :: rest) (hrm : (rest.map fun v => v.category).sum ≤ 8) (hcs : cells ≤ R.cells ∧ slots ≤ R.slots) (hdg : decode cc pc = .ok (.invokevirtual idx, 3))
    (kq : ∀ (H1 : Heap) (locs1 : List Loc), LW D ad cA cR adR kk aO cO aM aC aE ov σ ρ' s H1 locs1 → W p l e R s m args below meth c H1 locs1 cells slots Q (F0 m (pc + 3) ls (.int r :: rest))) : W p l e R s m args below meth c H locs cells slots Q (F0 m pc ls st) := by
  refine va_calli (va_runV (As := As) (rest := rest) (n := k) S hM (cwV k S.2.2.2.2 hG rfl rfl rfl hdd hR) ⟨fun a U g mk q => ⟨q.1, q.2.moved⟩, hW.recvR hF, fun U hU hw => ⟨rfl, hW.rp hF hU hw⟩⟩ rfl hk hsz hst (lv_room hrm) hdg hcs) hW.2.2.2 (fun q _ h => hF.2.1 q h) (fun q h => hF.2.1 q h) ?_
  intro r' u t H1 locs1 ht hvm hw hB _ hkp hS
  subst hw
  exact kq H1 locs1 (hW.afterR ht hB hkp hS)
theorem kc_rl {r : Int64} (hF : LF D cA cR adR kk cO s) (hM : Ml l y b n { frames := fr, cells := 0, slots := 0, locals := lo } (.ref (adR 35) :: As) (RP D adR cR kk ρ) r (RP D adR cR kk ρ') (RA adR)) (S : CallFix p m c cc nL s args wsL RL) (hW : LW D ad cA cR adR kk aO cO aM aC aE ov σ ρ s H locs) (hG : GoodIn wsL (wsV RL idx RX11 y (Cond.code y b n (some .long) :: wsL)))
    (hdd : y.cls = RX11 ∧ y.cls ≠ "java/lang/invoke/MethodHandle" ∧ y.cls ≠ "java/lang/invoke/VarHandle" ∧ (parseMethodDescriptor y.desc).map (fun d => d.parameters.length) = some k) (hR : fr + 1 ≤ R.frames ∧ 8 + (n + 11) + lo ≤ R.locals) (hk : As.length = k) (hsz : ls.size = nL) (hst : st = As.reverse ++ .ref (adR 35) :: rest) (hrm : (rest.map fun v => v.category).sum ≤ 8) (hcs : cells ≤ R.cells ∧ slots ≤ R.slots) (hdg : decode cc pc = .ok (.invokevirtual idx, 3))
    (kq : ∀ (H1 : Heap) (locs1 : List Loc), LW D ad cA cR adR kk aO cO aM aC aE ov σ ρ' s H1 locs1 → W p l e R s m args below meth c H1 locs1 cells slots Q (F0 m (pc + 3) ls (.long r :: rest))) : W p l e R s m args below meth c H locs cells slots Q (F0 m pc ls st) := by
  refine va_calll (va_runV (As := As) (rest := rest) (n := k) S hM (cwV k S.2.2.2.2 hG rfl rfl rfl hdd hR) ⟨fun a U g mk q => ⟨q.1, q.2.moved⟩, hW.recvR hF, fun U hU hw => ⟨rfl, hW.rp hF hU hw⟩⟩ rfl hk hsz hst (lv_room hrm) hdg hcs) hW.2.2.2 (fun q _ h => hF.2.1 q h) (fun q h => hF.2.1 q h) ?_
  intro r' u t H1 locs1 ht hvm hw hB _ hkp hS
  subst hw
  exact kq H1 locs1 (hW.afterR ht hB hkp hS)
end LWS
