def onull {β : Type} (e : Option Nat) (a : β) (b : Nat → β) : β := match e with
  | none => a
  | some i => b i
theorem on_of {β : Type} {e : Option Nat} {a : β} {b : Nat → β} {r : β} (h : onull e a b = r) : (e = none ∧ a = r) ∨ ∃ i, e = some i ∧ b i = r := by
  cases e with
  | none => exact Or.inl ⟨rfl, h⟩
  | some i => exact Or.inr ⟨i, rfl, h⟩
theorem bool_fit {v : Int32} (h : v = 0 ∨ v = 1) : fits .boolean (.int v) = true := by rcases h with rfl | rfl <;> rfl
/-- answers a reference or null; the heap as it was -/
def Mpo (l : Launch) (y : MethodName) (b : ByteArray) (n : Nat) (rt : FieldType) (rm : Room) (As : List Value) (P : State → Prop) (r : Option Nat) : Prop := Met l y (Cond.code y b n (some rt) :: wsL) rm (va_Pc As P) (va_Sq (fun x => x = r)) 0 0 (fun _ => False)
def Mo (l : Launch) (y : MethodName) (b : ByteArray) (n : Nat) (rt : FieldType) (rm : Room) (As : List Value) (P : State → Prop) (r : Option Nat) (P' : State → Prop) (A : Nat → Prop) : Prop := Met l y (Cond.code y b n (some rt) :: wsL) rm (va_Pc As P) (va_Qq (fun x (_ : Unit) => x = r) (fun _ t => P' t) A) rm.cells rm.slots A
theorem Mpo.of {l : Launch} {y : MethodName} {b : ByteArray} {n : Nat} {rt : FieldType} {rm : Room} {As : List Value} {P : State → Prop} {r : Option Nat} {own : String} (ho : y.cls = own) (hy : plainName y.cls = true) (hAs : (lg_sl As).length ≤ n)
    (body : ∀ (p : Program) (e : Env) (s : State) (m : MethodId) (args : Array Value) (below : List Frame) (meth : Method) (c : Code) (ls : Array Slot), CallFix p m c b n s args wsL own → meth.sig.returnType = some rt → meth.locks = false → P s → lv_has ls n (lv_args 0 As) → W p l e rm s m args below meth c s.heap [] 0 0 (MQ below (va_Sq (fun x => x = r)) args s 0 0 (fun _ => False)) (F0 m 0 ls [])) : Mpo l y b n rt rm As P r := by
  subst ho
  refine Met.ofW (cc := b) (maxL := n) (ret := some rt) hy rfl ?_
  intro p e s m args below meth c s₁ B hml hv
  obtain ⟨rfl, hP⟩ := hv
  have hts := atoms_spec (ws := Cond.code y b n (some rt) :: wsL) B.pre
  rw [lg_entry_eq]
  exact body p e s m _ below meth c _ ⟨B.exec, B.bytes, hml, findClass_of_methodNamed B.named, fun w h => hts w (List.mem_cons_of_mem _ h)⟩ B.returns B.notSynchronized hP (lv_entry As hAs)
theorem Mo.of {l : Launch} {y : MethodName} {b : ByteArray} {n : Nat} {rt : FieldType} {rm : Room} {As : List Value} {P : State → Prop} {r : Option Nat} {P' : State → Prop} {A : Nat → Prop} {own : String} (ho : y.cls = own) (hy : plainName y.cls = true) (hAs : (lg_sl As).length ≤ n)
    (body : ∀ (p : Program) (e : Env) (s : State) (m : MethodId) (args : Array Value) (below : List Frame) (meth : Method) (c : Code) (ls : Array Slot), CallFix p m c b n s args wsL own → meth.sig.returnType = some rt → meth.locks = false → P s → lv_has ls n (lv_args 0 As) → W p l e rm s m args below meth c s.heap [] 0 0 (MQ below (va_Qq (fun x (_ : Unit) => x = r) (fun _ t => P' t) A) args s rm.cells rm.slots A) (F0 m 0 ls [])) : Mo l y b n rt rm As P r P' A := by
  subst ho
  refine Met.ofW (cc := b) (maxL := n) (ret := some rt) hy rfl ?_
  intro p e s m args below meth c s₁ B hml hv
  obtain ⟨rfl, hP⟩ := hv
  have hts := atoms_spec (ws := Cond.code y b n (some rt) :: wsL) B.pre
  rw [lg_entry_eq]
  exact body p e s m _ below meth c _ ⟨B.exec, B.bytes, hml, findClass_of_methodNamed B.named, fun w h => hts w (List.mem_cons_of_mem _ h)⟩ B.returns B.notSynchronized hP (lv_entry As hAs)
section CF
variable {p : Program} {l : Launch} {e : Env} {R : Room} {s : State} {m : MethodId} {args : Array Value} {below : List Frame} {meth : Method} {c : Code} {H : Heap} {locs : List Loc} {Q : State → Prop} {cc : ByteArray} {nL pc : Nat} {ls : Array Slot} {rest st : List Value} {own : String} {A : Nat → Prop} {D : va_G} {ad aM aC aE : Nat → Nat} {cA : Nat → ClassId} {kk : Nat → Nat} {X : va_W} {σ : SC}
theorem rs_o {rt : FieldType} {v r : Option Nat} (S : CallFix p m c cc nL s args wsL own) (hr : meth.sig.returnType = some rt) (hrt : (∃ n, rt = .object n) ∨ ∃ t, rt = .array t) (hlk : meth.locks = false) (hv : v = r) (hdg : decode cc pc = .ok (.areturn, 1)) : W p l e R s m args below meth c s.heap [] 0 0 (MQ below (va_Sq (fun x => x = r)) args s 0 0 (fun _ => False)) (F0 m pc ls [va_rf v]) :=
  W.aret S.1 S.2.1 hr hrt (by cases v with | none => exact Or.inl rfl | some a => exact Or.inr ⟨a, rfl⟩) (fun t ht hW => ⟨v, rfl, hv, ht⟩) (fun q h => absurd h List.not_mem_nil) hdg hlk
/-- a static method without a world, linked between nest mates -/
theorem sc_iN {y : MethodName} {b : ByteArray} {n k idx : Nat} {rt : FieldType} {rm : Room} {As : List Value} {r : Int32} {host : String} (hM : Ms l y b n rt rm As r) (S : CallFix p m c cc nL s args wsL own) (hN : NW s) (hw : Cond.methodLinkNest own idx y host ∈ nwl) (h2 : Cond.static y ∈ wsL) (h4 : Cond.initialized y.cls ∈ wsL) (h5 : Cond.code y b n (some rt) ∈ wsL) (hrc : rm.cells = 0) (hrs : rm.slots = 0)
    (hd : y.cls ≠ "java/lang/invoke/MethodHandle" ∧ y.cls ≠ "java/lang/invoke/VarHandle" ∧ (parseMethodDescriptor y.desc).map (fun d => d.parameters.length) = some k) (hR : rm.frames + 1 ≤ R.frames ∧ 8 + (n + 11) + rm.locals ≤ R.locals) (hk : As.length = k) (hsz : ls.size = nL) (hst : st = As.reverse ++ rest) (hrm : (rest.map fun v => v.category).sum ≤ 8) {cells slots : Nat} (hcs : cells ≤ R.cells ∧ slots ≤ R.slots) (hdg : decode cc pc = .ok (.invokestatic idx, 3))
    (kq : W p l e R s m args below meth c H locs cells slots Q (F0 m (pc + 3) ls (.int r :: rest))) : W p l e R s m args below meth c H locs cells slots Q (F0 m pc ls st) := by
  refine vp_callSi (rest := rest) (va_runSN (As := As) (rest := rest) (n := k) S hM ⟨va_cnB k S.2.2.2.2 (gd_I h5) rfl hrc hrs (hN _ hw) (S.2.2.2.2 _ h4) hd hR, S.2.2.2.2 _ h2, trivial⟩ ⟨fun a U g mk q => ⟨q.1, trivial⟩, fun U hU hW => ⟨rfl, trivial⟩⟩ rfl hk hsz hst (lv_room hrm) hdg ⟨by omega, by omega⟩).run ?_
  intro r' e
  subst e
  exact kq
theorem CW.start (h : CP D ad cA kk A aM aC aE X σ s) : CW D ad cA kk A aM aC aE X σ s s.heap [] := ⟨h.1, h.2.1, h.2.2, va_S.rf⟩
theorem CE.done (h : CE D cA kk A s) (hS : va_S A s.heap H locs) {t : State} (ht : t.heap = H) (hv : s.WarmedH t.vm) : CE D cA kk A t := ⟨va_K.moved hv.alike h.1, h.2.1.kept hS ht hv, h.2.2.1.warm hv, fun q hq => h.2.2.2 q (by rw [ht] at hq; exact Nat.le_trans hS.1 hq)⟩
theorem CI.at {s' : State} {t : State} (h : CI D ad cA kk A aM aC aE X σ s H) (ht : t.heap = H) : CI D ad cA kk A aM aC aE X σ s' t.heap := by rw [ht]; exact h
theorem CW.done (hW : CW D ad cA kk A aM aC aE X σ s H locs) {t : State} (ht : t.heap = H) (hv : s.WarmedH t.vm) : CP D ad cA kk A aM aC aE X σ t := ⟨hW.1.at ht, hW.2.1.done hW.2.2.2 ht hv, hW.2.2.1⟩
theorem CE.same (h : CE D cA kk A s) {g : JFrame} {mk : MethodId} {a : Array Value} : CE D cA kk A (s.calling g mk a) := ⟨va_K.moved (u := s) (U := s.calling g mk a) (Vm.Alike.refl s.vm) h.1, h.2.1.same, h.2.2.1.same, h.2.2.2⟩
theorem CP.same {U : State} (h : CP D ad cA kk A aM aC aE X σ U) {g : JFrame} {mk : MethodId} {a : Array Value} : CP D ad cA kk A aM aC aE X σ (U.calling g mk a) := ⟨h.1, h.2.1.same, h.2.2⟩
theorem CW.after {aM1 aC1 aE1 : Nat → Nat} {X1 : va_W} {σ' : SC} (hE : CE D cA kk A s) {t : State} {H1 : Heap} {locs1 : List Loc} (ht : t.heap = H1) (hB : CP D ad cA kk A aM1 aC1 aE1 X1 σ' t) (hS : va_S A s.heap H1 locs1) : CW D ad cA kk A aM1 aC1 aE1 X1 σ' s H1 locs1 := ⟨by rw [← ht]; exact hB.1, hE, hB.2.2, hS⟩
theorem xr_i {rt : FieldType} {v r : Int32} (S : CallFix p m c cc nL s args wsL own) (hr : meth.sig.returnType = some rt) (hlk : meth.locks = false) (hW : CW D ad cA kk A aM aC aE X σ s H locs) (hn : narrow rt (.int v) = .int v) (hv : v = r) (hdg : decode cc pc = .ok (.ireturn, 1)) : W p l e R s m args below meth c H locs 0 0 (MQ below (va_Qi (fun x (_ : Unit) => x = r) (fun _ t => CP D ad cA kk A aM aC aE X σ t) A) args s 0 0 A) (F0 m pc ls [.int v]) :=
  W.zret S.1 S.2.1 hr hn (fun t ht hw => ⟨⟨v, (), rfl, hv, hW.done ht hw⟩, hW.2.2.2.F ht⟩) hW.2.2.2.2.2 hdg hlk
theorem xr_l {v r : Int64} (S : CallFix p m c cc nL s args wsL own) (hr : meth.sig.returnType = some .long) (hlk : meth.locks = false) (hW : CW D ad cA kk A aM aC aE X σ s H locs) (hv : v = r) (hdg : decode cc pc = .ok (.lreturn, 1)) : W p l e R s m args below meth c H locs 0 0 (MQ below (va_Ql (fun x (_ : Unit) => x = r) (fun _ t => CP D ad cA kk A aM aC aE X σ t) A) args s 0 0 A) (F0 m pc ls [.long v]) :=
  W.lret S.1 S.2.1 hr (fun t ht hw => ⟨⟨v, (), rfl, hv, hW.done ht hw⟩, hW.2.2.2.F ht⟩) hW.2.2.2.2.2 hdg hlk
theorem xr_v (S : CallFix p m c cc nL s args wsL own) (hr : meth.sig.returnType = none) (hlk : meth.locks = false) (hW : CW D ad cA kk A aM aC aE X σ s H locs) (hdg : decode cc pc = .ok (.return_, 1)) : W p l e R s m args below meth c H locs 0 0 (MQ below (va_Qv (fun (_ : Unit) => True) (fun _ t => CP D ad cA kk A aM aC aE X σ t) A) args s 0 0 A) (F0 m pc ls []) :=
  W.vret S.1 S.2.1 hr (fun t ht hw => ⟨⟨(), rfl, trivial, hW.done ht hw⟩, hW.2.2.2.F ht⟩) hW.2.2.2.2.2 hdg hlk
theorem xr_o {rt : FieldType} {v r : Option Nat} (S : CallFix p m c cc nL s args wsL own) (hr : meth.sig.returnType = some rt) (hrt : (∃ n, rt = .object n) ∨ ∃ t, rt = .array t) (hlk : meth.locks = false) (hW : CW D ad cA kk A aM aC aE X σ s H locs) (hv : v = r) (hdg : decode cc pc = .ok (.areturn, 1)) : W p l e R s m args below meth c H locs 0 0 (MQ below (va_Qq (fun x (_ : Unit) => x = r) (fun _ t => CP D ad cA kk A aM aC aE X σ t) A) args s 0 0 A) (F0 m pc ls [va_rf v]) :=
  W.aret S.1 S.2.1 hr hrt (by cases v with | none => exact Or.inl rfl | some a => exact Or.inr ⟨a, rfl⟩) (fun t ht hw => ⟨⟨v, (), rfl, hv, hW.done ht hw⟩, hW.2.2.2.F ht⟩) hW.2.2.2.2.2 hdg hlk
theorem CW.pre (hW : CW D ad cA kk A aM aC aE X σ s H locs) {C : String} {q : Nat} (hrecv : ∃ cellB : Cell, H[q]? = some cellB ∧ cellB.vm.isStatics = false ∧ s.vm.findClass C = some cellB.cls) (As : List Value) : PreV s H C q (va_Pc (.ref q :: As) (CP D ad cA kk A aM aC aE X σ)) As := ⟨fun a U g mk q => ⟨q.1, q.2.same⟩, hrecv, fun U hU hw => ⟨rfl, hW.done hU hw⟩⟩
theorem CW.preS (hW : CW D ad cA kk A aM aC aE X σ s H locs) (As : List Value) : PreS s H (va_Pc As (CP D ad cA kk A aM aC aE X σ)) As := ⟨fun a U g mk q => ⟨q.1, q.2.same⟩, fun U hU hw => ⟨rfl, hW.done hU hw⟩⟩
variable {y : MethodName} {b : ByteArray} {n k idx fr lo : Nat} {As : List Value} {σ' : SC} {C : String} {q : Nat}
theorem xc_i {rt : FieldType} {r : Int32} (hM : Mi l y b n rt { frames := fr, cells := 0, slots := 0, locals := lo } (.ref q :: As) (CP D ad cA kk A aM aC aE X σ) r (CP D ad cA kk A aM aC aE X σ') A) (hrecv : ∃ cellB : Cell, H[q]? = some cellB ∧ cellB.vm.isStatics = false ∧ s.vm.findClass C = some cellB.cls) (S : CallFix p m c cc nL s args wsL own) (hW : CW D ad cA kk A aM aC aE X σ s H locs) (hG : GoodIn wsL (wsV own idx C y (Cond.code y b n (some rt) :: wsL)))
    (hdd : y.cls = C ∧ y.cls ≠ "java/lang/invoke/MethodHandle" ∧ y.cls ≠ "java/lang/invoke/VarHandle" ∧ (parseMethodDescriptor y.desc).map (fun d => d.parameters.length) = some k) (hR : fr + 1 ≤ R.frames ∧ 8 + (n + 11) + lo ≤ R.locals) (hk : As.length = k) (hsz : ls.size = nL) (hst : st = As.reverse ++ .ref q :: rest) (hrm : (rest.map fun v => v.category).sum ≤ 8) {cells slots : Nat} (hcs : cells ≤ R.cells ∧ slots ≤ R.slots) (hdg : decode cc pc = .ok (.invokevirtual idx, 3))
    (kq : ∀ (H1 : Heap) (locs1 : List Loc), CW D ad cA kk A aM aC aE X σ' s H1 locs1 → W p l e R s m args below meth c H1 locs1 cells slots Q (F0 m (pc + 3) ls (.int r :: rest))) : W p l e R s m args below meth c H locs cells slots Q (F0 m pc ls st) := by
  refine va_calli (va_runV (As := As) (rest := rest) (n := k) S hM (cwV k S.2.2.2.2 hG rfl rfl rfl hdd hR) (hW.pre hrecv As) rfl hk hsz hst (lv_room hrm) hdg hcs) hW.2.2.2 (fun q _ h => h) (fun _ h => h) ?_
  intro r' u t H1 locs1 ht hvm hw hB _ _ hS
  subst hw
  exact kq H1 locs1 (CW.after hW.2.1 ht hB hS)
theorem xs_i {rt : FieldType} {r : Int32} (hM : Mi l y b n rt { frames := fr, cells := 0, slots := 0, locals := lo } As (CP D ad cA kk A aM aC aE X σ) r (CP D ad cA kk A aM aC aE X σ') A) (S : CallFix p m c cc nL s args wsL own) (hW : CW D ad cA kk A aM aC aE X σ s H locs) (hG : GoodIn wsL (va_wsS own idx y (Cond.code y b n (some rt) :: wsL)))
    (hdd : y.cls ≠ "java/lang/invoke/MethodHandle" ∧ y.cls ≠ "java/lang/invoke/VarHandle" ∧ (parseMethodDescriptor y.desc).map (fun d => d.parameters.length) = some k) (hR : fr + 1 ≤ R.frames ∧ 8 + (n + 11) + lo ≤ R.locals) (hk : As.length = k) (hsz : ls.size = nL) (hst : st = As.reverse ++ rest) (hrm : (rest.map fun v => v.category).sum ≤ 8) {cells slots : Nat} (hcs : cells ≤ R.cells ∧ slots ≤ R.slots) (hdg : decode cc pc = .ok (.invokestatic idx, 3))
    (kq : ∀ (H1 : Heap) (locs1 : List Loc), CW D ad cA kk A aM aC aE X σ' s H1 locs1 → W p l e R s m args below meth c H1 locs1 cells slots Q (F0 m (pc + 3) ls (.int r :: rest))) : W p l e R s m args below meth c H locs cells slots Q (F0 m pc ls st) := by
  refine va_calli (va_runS (As := As) (rest := rest) (n := k) S hM (va_cwS k S.2.2.2.2 hG rfl rfl rfl hdd hR) (hW.preS As) rfl hk hsz hst (lv_room hrm) hdg hcs) hW.2.2.2 (fun q _ h => h) (fun _ h => h) ?_
  intro r' u t H1 locs1 ht hvm hw hB _ _ hS
  subst hw
  exact kq H1 locs1 (CW.after hW.2.1 ht hB hS)
theorem xc_l {r : Int64} (hM : Ml l y b n { frames := fr, cells := 0, slots := 0, locals := lo } (.ref q :: As) (CP D ad cA kk A aM aC aE X σ) r (CP D ad cA kk A aM aC aE X σ') A) (hrecv : ∃ cellB : Cell, H[q]? = some cellB ∧ cellB.vm.isStatics = false ∧ s.vm.findClass C = some cellB.cls) (S : CallFix p m c cc nL s args wsL own) (hW : CW D ad cA kk A aM aC aE X σ s H locs) (hG : GoodIn wsL (wsV own idx C y (Cond.code y b n (some .long) :: wsL)))
    (hdd : y.cls = C ∧ y.cls ≠ "java/lang/invoke/MethodHandle" ∧ y.cls ≠ "java/lang/invoke/VarHandle" ∧ (parseMethodDescriptor y.desc).map (fun d => d.parameters.length) = some k) (hR : fr + 1 ≤ R.frames ∧ 8 + (n + 11) + lo ≤ R.locals) (hk : As.length = k) (hsz : ls.size = nL) (hst : st = As.reverse ++ .ref q :: rest) (hrm : (rest.map fun v => v.category).sum ≤ 8) {cells slots : Nat} (hcs : cells ≤ R.cells ∧ slots ≤ R.slots) (hdg : decode cc pc = .ok (.invokevirtual idx, 3))
    (kq : ∀ (H1 : Heap) (locs1 : List Loc), CW D ad cA kk A aM aC aE X σ' s H1 locs1 → W p l e R s m args below meth c H1 locs1 cells slots Q (F0 m (pc + 3) ls (.long r :: rest))) : W p l e R s m args below meth c H locs cells slots Q (F0 m pc ls st) := by
  refine va_calll (va_runV (As := As) (rest := rest) (n := k) S hM (cwV k S.2.2.2.2 hG rfl rfl rfl hdd hR) (hW.pre hrecv As) rfl hk hsz hst (lv_room hrm) hdg hcs) hW.2.2.2 (fun q _ h => h) (fun _ h => h) ?_
  intro r' u t H1 locs1 ht hvm hw hB _ _ hS
  subst hw
  exact kq H1 locs1 (CW.after hW.2.1 ht hB hS)
theorem xs_l {r : Int64} (hM : Ml l y b n { frames := fr, cells := 0, slots := 0, locals := lo } As (CP D ad cA kk A aM aC aE X σ) r (CP D ad cA kk A aM aC aE X σ') A) (S : CallFix p m c cc nL s args wsL own) (hW : CW D ad cA kk A aM aC aE X σ s H locs) (hG : GoodIn wsL (va_wsS own idx y (Cond.code y b n (some .long) :: wsL)))
    (hdd : y.cls ≠ "java/lang/invoke/MethodHandle" ∧ y.cls ≠ "java/lang/invoke/VarHandle" ∧ (parseMethodDescriptor y.desc).map (fun d => d.parameters.length) = some k) (hR : fr + 1 ≤ R.frames ∧ 8 + (n + 11) + lo ≤ R.locals) (hk : As.length = k) (hsz : ls.size = nL) (hst : st = As.reverse ++ rest) (hrm : (rest.map fun v => v.category).sum ≤ 8) {cells slots : Nat} (hcs : cells ≤ R.cells ∧ slots ≤ R.slots) (hdg : decode cc pc = .ok (.invokestatic idx, 3))
    (kq : ∀ (H1 : Heap) (locs1 : List Loc), CW D ad cA kk A aM aC aE X σ' s H1 locs1 → W p l e R s m args below meth c H1 locs1 cells slots Q (F0 m (pc + 3) ls (.long r :: rest))) : W p l e R s m args below meth c H locs cells slots Q (F0 m pc ls st) := by
  refine va_calll (va_runS (As := As) (rest := rest) (n := k) S hM (va_cwS k S.2.2.2.2 hG rfl rfl rfl hdd hR) (hW.preS As) rfl hk hsz hst (lv_room hrm) hdg hcs) hW.2.2.2 (fun q _ h => h) (fun _ h => h) ?_
  intro r' u t H1 locs1 ht hvm hw hB _ _ hS
  subst hw
  exact kq H1 locs1 (CW.after hW.2.1 ht hB hS)
theorem xc_v (hM : Mv l y b n { frames := fr, cells := 0, slots := 0, locals := lo } (.ref q :: As) (CP D ad cA kk A aM aC aE X σ) (CP D ad cA kk A aM aC aE X σ') A) (hrecv : ∃ cellB : Cell, H[q]? = some cellB ∧ cellB.vm.isStatics = false ∧ s.vm.findClass C = some cellB.cls) (S : CallFix p m c cc nL s args wsL own) (hW : CW D ad cA kk A aM aC aE X σ s H locs) (hG : GoodIn wsL (wsV own idx C y (Cond.code y b n none :: wsL)))
    (hdd : y.cls = C ∧ y.cls ≠ "java/lang/invoke/MethodHandle" ∧ y.cls ≠ "java/lang/invoke/VarHandle" ∧ (parseMethodDescriptor y.desc).map (fun d => d.parameters.length) = some k) (hR : fr + 1 ≤ R.frames ∧ 8 + (n + 11) + lo ≤ R.locals) (hk : As.length = k) (hsz : ls.size = nL) (hst : st = As.reverse ++ .ref q :: rest) (hrm : (rest.map fun v => v.category).sum ≤ 8) {cells slots : Nat} (hcs : cells ≤ R.cells ∧ slots ≤ R.slots) (hdg : decode cc pc = .ok (.invokevirtual idx, 3))
    (kq : ∀ (H1 : Heap) (locs1 : List Loc), CW D ad cA kk A aM aC aE X σ' s H1 locs1 → W p l e R s m args below meth c H1 locs1 cells slots Q (F0 m (pc + 3) ls (rest))) : W p l e R s m args below meth c H locs cells slots Q (F0 m pc ls st) := by
  refine va_callv (va_runV (As := As) (rest := rest) (n := k) S hM (cwV k S.2.2.2.2 hG rfl rfl rfl hdd hR) (hW.pre hrecv As) rfl hk hsz hst (lv_room hrm) hdg hcs) hW.2.2.2 (fun q _ h => h) (fun _ h => h) ?_
  intro u t H1 locs1 ht hvm hw hB _ _ hS
  exact kq H1 locs1 (CW.after hW.2.1 ht hB hS)
theorem xs_v (hM : Mv l y b n { frames := fr, cells := 0, slots := 0, locals := lo } As (CP D ad cA kk A aM aC aE X σ) (CP D ad cA kk A aM aC aE X σ') A) (S : CallFix p m c cc nL s args wsL own) (hW : CW D ad cA kk A aM aC aE X σ s H locs) (hG : GoodIn wsL (va_wsS own idx y (Cond.code y b n none :: wsL)))
    (hdd : y.cls ≠ "java/lang/invoke/MethodHandle" ∧ y.cls ≠ "java/lang/invoke/VarHandle" ∧ (parseMethodDescriptor y.desc).map (fun d => d.parameters.length) = some k) (hR : fr + 1 ≤ R.frames ∧ 8 + (n + 11) + lo ≤ R.locals) (hk : As.length = k) (hsz : ls.size = nL) (hst : st = As.reverse ++ rest) (hrm : (rest.map fun v => v.category).sum ≤ 8) {cells slots : Nat} (hcs : cells ≤ R.cells ∧ slots ≤ R.slots) (hdg : decode cc pc = .ok (.invokestatic idx, 3))
    (kq : ∀ (H1 : Heap) (locs1 : List Loc), CW D ad cA kk A aM aC aE X σ' s H1 locs1 → W p l e R s m args below meth c H1 locs1 cells slots Q (F0 m (pc + 3) ls (rest))) : W p l e R s m args below meth c H locs cells slots Q (F0 m pc ls st) := by
  refine va_callv (va_runS (As := As) (rest := rest) (n := k) S hM (va_cwS k S.2.2.2.2 hG rfl rfl rfl hdd hR) (hW.preS As) rfl hk hsz hst (lv_room hrm) hdg hcs) hW.2.2.2 (fun q _ h => h) (fun _ h => h) ?_
  intro u t H1 locs1 ht hvm hw hB _ _ hS
  exact kq H1 locs1 (CW.after hW.2.1 ht hB hS)
theorem xc_o {rt : FieldType} {r : Option Nat} (hM : Mo l y b n rt { frames := fr, cells := 0, slots := 0, locals := lo } (.ref q :: As) (CP D ad cA kk A aM aC aE X σ) r (CP D ad cA kk A aM aC aE X σ') A) (hrecv : ∃ cellB : Cell, H[q]? = some cellB ∧ cellB.vm.isStatics = false ∧ s.vm.findClass C = some cellB.cls) (S : CallFix p m c cc nL s args wsL own) (hW : CW D ad cA kk A aM aC aE X σ s H locs) (hG : GoodIn wsL (wsV own idx C y (Cond.code y b n (some rt) :: wsL)))
    (hdd : y.cls = C ∧ y.cls ≠ "java/lang/invoke/MethodHandle" ∧ y.cls ≠ "java/lang/invoke/VarHandle" ∧ (parseMethodDescriptor y.desc).map (fun d => d.parameters.length) = some k) (hR : fr + 1 ≤ R.frames ∧ 8 + (n + 11) + lo ≤ R.locals) (hk : As.length = k) (hsz : ls.size = nL) (hst : st = As.reverse ++ .ref q :: rest) (hrm : (rest.map fun v => v.category).sum ≤ 8) {cells slots : Nat} (hcs : cells ≤ R.cells ∧ slots ≤ R.slots) (hdg : decode cc pc = .ok (.invokevirtual idx, 3))
    (kq : ∀ (H1 : Heap) (locs1 : List Loc), CW D ad cA kk A aM aC aE X σ' s H1 locs1 → W p l e R s m args below meth c H1 locs1 cells slots Q (F0 m (pc + 3) ls (va_rf r :: rest))) : W p l e R s m args below meth c H locs cells slots Q (F0 m pc ls st) := by
  refine va_callq (va_runV (As := As) (rest := rest) (n := k) S hM (cwV k S.2.2.2.2 hG rfl rfl rfl hdd hR) (hW.pre hrecv As) rfl hk hsz hst (lv_room hrm) hdg hcs) hW.2.2.2 (fun q _ h => h) (fun _ h => h) ?_
  intro r' u t H1 locs1 ht hvm hw hB _ _ hS
  subst hw
  exact kq H1 locs1 (CW.after hW.2.1 ht hB hS)
theorem xs_o {rt : FieldType} {r : Option Nat} (hM : Mo l y b n rt { frames := fr, cells := 0, slots := 0, locals := lo } As (CP D ad cA kk A aM aC aE X σ) r (CP D ad cA kk A aM aC aE X σ') A) (S : CallFix p m c cc nL s args wsL own) (hW : CW D ad cA kk A aM aC aE X σ s H locs) (hG : GoodIn wsL (va_wsS own idx y (Cond.code y b n (some rt) :: wsL)))
    (hdd : y.cls ≠ "java/lang/invoke/MethodHandle" ∧ y.cls ≠ "java/lang/invoke/VarHandle" ∧ (parseMethodDescriptor y.desc).map (fun d => d.parameters.length) = some k) (hR : fr + 1 ≤ R.frames ∧ 8 + (n + 11) + lo ≤ R.locals) (hk : As.length = k) (hsz : ls.size = nL) (hst : st = As.reverse ++ rest) (hrm : (rest.map fun v => v.category).sum ≤ 8) {cells slots : Nat} (hcs : cells ≤ R.cells ∧ slots ≤ R.slots) (hdg : decode cc pc = .ok (.invokestatic idx, 3))
    (kq : ∀ (H1 : Heap) (locs1 : List Loc), CW D ad cA kk A aM aC aE X σ' s H1 locs1 → W p l e R s m args below meth c H1 locs1 cells slots Q (F0 m (pc + 3) ls (va_rf r :: rest))) : W p l e R s m args below meth c H locs cells slots Q (F0 m pc ls st) := by
  refine va_callq (va_runS (As := As) (rest := rest) (n := k) S hM (va_cwS k S.2.2.2.2 hG rfl rfl rfl hdd hR) (hW.preS As) rfl hk hsz hst (lv_room hrm) hdg hcs) hW.2.2.2 (fun q _ h => h) (fun _ h => h) ?_
  intro r' u t H1 locs1 ht hvm hw hB _ _ hS
  subst hw
  exact kq H1 locs1 (CW.after hW.2.1 ht hB hS)
theorem xr_RX10 (hW : CW D ad cA kk A aM aC aE X σ s H locs) : ∃ cellB : Cell, H[ad 0]? = some cellB ∧ cellB.vm.isStatics = false ∧ s.vm.findClass RX10 = some cellB.cls := by
  obtain ⟨⟨lm, la, lc, lr, hP, hD, hL⟩, hE, hF, hS⟩ := hW
  exact va_recv hE.1 hP (ci := 11) (q0 := 0) rfl rfl
theorem xr_RX8 (hW : CW D ad cA kk A aM aC aE X σ s H locs) : ∃ cellB : Cell, H[ad 1]? = some cellB ∧ cellB.vm.isStatics = false ∧ s.vm.findClass RX8 = some cellB.cls := by
  obtain ⟨⟨lm, la, lc, lr, hP, hD, hL⟩, hE, hF, hS⟩ := hW
  exact va_recv hE.1 hP (ci := 9) (q0 := 1) rfl rfl
theorem xr_RX7 (hW : CW D ad cA kk A aM aC aE X σ s H locs) : ∃ cellB : Cell, H[ad 3]? = some cellB ∧ cellB.vm.isStatics = false ∧ s.vm.findClass RX7 = some cellB.cls := by
  obtain ⟨⟨lm, la, lc, lr, hP, hD, hL⟩, hE, hF, hS⟩ := hW
  exact va_recv hE.1 hP (ci := 8) (q0 := 3) rfl rfl
theorem xr_RX9 (hW : CW D ad cA kk A aM aC aE X σ s H locs) : ∃ cellB : Cell, H[ad 7]? = some cellB ∧ cellB.vm.isStatics = false ∧ s.vm.findClass RX9 = some cellB.cls := by
  obtain ⟨⟨lm, la, lc, lr, hP, hD, hL⟩, hE, hF, hS⟩ := hW
  exact va_recv hE.1 hP (ci := 10) (q0 := 7) rfl rfl
theorem xr_RX2 (hW : CW D ad cA kk A aM aC aE X σ s H locs) : ∃ cellB : Cell, H[ad 8]? = some cellB ∧ cellB.vm.isStatics = false ∧ s.vm.findClass RX2 = some cellB.cls := by
  obtain ⟨⟨lm, la, lc, lr, hP, hD, hL⟩, hE, hF, hS⟩ := hW
  exact va_recv hE.1 hP (ci := 3) (q0 := 8) rfl rfl
theorem xr_RX5 (hW : CW D ad cA kk A aM aC aE X σ s H locs) : ∃ cellB : Cell, H[ad 13]? = some cellB ∧ cellB.vm.isStatics = false ∧ s.vm.findClass RX5 = some cellB.cls := by
  obtain ⟨⟨lm, la, lc, lr, hP, hD, hL⟩, hE, hF, hS⟩ := hW
  exact va_recv hE.1 hP (ci := 6) (q0 := 13) rfl rfl
theorem xr_RX0 (hW : CW D ad cA kk A aM aC aE X σ s H locs) : ∃ cellB : Cell, H[ad 15]? = some cellB ∧ cellB.vm.isStatics = false ∧ s.vm.findClass RX0 = some cellB.cls := by
  obtain ⟨⟨lm, la, lc, lr, hP, hD, hL⟩, hE, hF, hS⟩ := hW
  exact va_recv hE.1 hP (ci := 1) (q0 := 15) rfl rfl
theorem xr_RX4 (hW : CW D ad cA kk A aM aC aE X σ s H locs) : ∃ cellB : Cell, H[ad 18]? = some cellB ∧ cellB.vm.isStatics = false ∧ s.vm.findClass RX4 = some cellB.cls := by
  obtain ⟨⟨lm, la, lc, lr, hP, hD, hL⟩, hE, hF, hS⟩ := hW
  exact va_recv hE.1 hP (ci := 5) (q0 := 18) rfl rfl
theorem xr_L0 (hW : CW D ad cA kk A aM aC aE X σ s H locs) : ∃ cellB : Cell, H[ad 11]? = some cellB ∧ cellB.vm.isStatics = false ∧ s.vm.findClass RJx4a65c = some cellB.cls := by
  obtain ⟨⟨lm, la, lc, lr, hP, hD, hL⟩, hE, hF, hS⟩ := hW
  exact va_recv hE.1 hP (ci := 0) (q0 := 11) rfl rfl
theorem xr_L1 (hW : CW D ad cA kk A aM aC aE X σ s H locs) : ∃ cellB : Cell, H[ad 12]? = some cellB ∧ cellB.vm.isStatics = false ∧ s.vm.findClass RJx4a65c = some cellB.cls := by
  obtain ⟨⟨lm, la, lc, lr, hP, hD, hL⟩, hE, hF, hS⟩ := hW
  exact va_recv hE.1 hP (ci := 0) (q0 := 12) rfl rfl
theorem xr_L2 (hW : CW D ad cA kk A aM aC aE X σ s H locs) : ∃ cellB : Cell, H[ad 14]? = some cellB ∧ cellB.vm.isStatics = false ∧ s.vm.findClass RJx4a65c = some cellB.cls := by
  obtain ⟨⟨lm, la, lc, lr, hP, hD, hL⟩, hE, hF, hS⟩ := hW
  exact va_recv hE.1 hP (ci := 0) (q0 := 14) rfl rfl
theorem xr_M {i : Nat} (hW : CW D ad cA kk A aM aC aE X σ s H locs) (hi : i < xn σ 0) : ∃ cellB : Cell, H[aM i]? = some cellB ∧ cellB.vm.isStatics = false ∧ s.vm.findClass RX6 = some cellB.cls := by
  obtain ⟨⟨lm, la, lc, lr, hP, hD, hL⟩, hE, hF, hS⟩ := hW
  exact va_recv hE.1 hP (ci := 7) rfl (cm_at hi)
theorem xcast_M {i ix : Nat} (S : CallFix p m c cc nL s args wsL own) (hW : CW D ad cA kk A aM aC aE X σ s H locs) (hi : i < xn σ 0) (hw : Cond.classLink own ix RX6 ∈ wsL) (hdg : decode cc pc = .ok (.checkcast ix, 3)) {cells slots : Nat} (kq : W p l e R s m args below meth c H locs cells slots Q (F0 m (pc + 3) ls (.ref (aM i) :: rest))) : W p l e R s m args below meth c H locs cells slots Q (F0 m pc ls (.ref (aM i) :: rest)) :=
  va_castS S.1 S.2.1 S.2.2.2.1 (S.2.2.2.2 _ hw) (hW.2.1.1.1 7 _ rfl).2 (xr_M hW hi) hdg kq
theorem xr_C {i : Nat} (hW : CW D ad cA kk A aM aC aE X σ s H locs) (hi : i < xn σ 1) : ∃ cellB : Cell, H[aC i]? = some cellB ∧ cellB.vm.isStatics = false ∧ s.vm.findClass RX1 = some cellB.cls := by
  obtain ⟨⟨lm, la, lc, lr, hP, hD, hL⟩, hE, hF, hS⟩ := hW
  exact va_recv hE.1 hP (ci := 2) rfl (cc_at hi)
theorem xcast_C {i ix : Nat} (S : CallFix p m c cc nL s args wsL own) (hW : CW D ad cA kk A aM aC aE X σ s H locs) (hi : i < xn σ 1) (hw : Cond.classLink own ix RX1 ∈ wsL) (hdg : decode cc pc = .ok (.checkcast ix, 3)) {cells slots : Nat} (kq : W p l e R s m args below meth c H locs cells slots Q (F0 m (pc + 3) ls (.ref (aC i) :: rest))) : W p l e R s m args below meth c H locs cells slots Q (F0 m pc ls (.ref (aC i) :: rest)) :=
  va_castS S.1 S.2.1 S.2.2.2.1 (S.2.2.2.2 _ hw) (hW.2.1.1.1 2 _ rfl).2 (xr_C hW hi) hdg kq
theorem xr_E {i : Nat} (hW : CW D ad cA kk A aM aC aE X σ s H locs) (hi : i < xn σ 2) : ∃ cellB : Cell, H[aE i]? = some cellB ∧ cellB.vm.isStatics = false ∧ s.vm.findClass RX3 = some cellB.cls := by
  obtain ⟨⟨lm, la, lc, lr, hP, hD, hL⟩, hE, hF, hS⟩ := hW
  exact va_recv hE.1 hP (ci := 4) rfl (ce_at hi)
theorem xcast_E {i ix : Nat} (S : CallFix p m c cc nL s args wsL own) (hW : CW D ad cA kk A aM aC aE X σ s H locs) (hi : i < xn σ 2) (hw : Cond.classLink own ix RX3 ∈ wsL) (hdg : decode cc pc = .ok (.checkcast ix, 3)) {cells slots : Nat} (kq : W p l e R s m args below meth c H locs cells slots Q (F0 m (pc + 3) ls (.ref (aE i) :: rest))) : W p l e R s m args below meth c H locs cells slots Q (F0 m pc ls (.ref (aE i) :: rest)) :=
  va_castS S.1 S.2.1 S.2.2.2.1 (S.2.2.2.2 _ hw) (hW.2.1.1.1 4 _ rfl).2 (xr_E hW hi) hdg kq
theorem xal_2 (S : CallFix p m c cc nL s args wsL own) (hW : CW D ad cA kk A aM aC aE X σ s H locs) (hdg : decode cc pc = .ok (.arraylength, 1)) {cells slots : Nat} (kq : W p l e R s m args below meth c H locs cells slots Q (F0 m (pc + 1) ls (.int 200 :: rest))) : W p l e R s m args below meth c H locs cells slots Q (F0 m pc ls (.ref (ad 2) :: rest)) := by
  obtain ⟨⟨lm, la, lc, lr, hP, hD, hL⟩, hE, hF, hS⟩ := hW
  exact va_alen (v := 200) S.1 S.2.1 hE.1 hP 2 0 rfl rfl rfl hdg kq
theorem xal_4 (S : CallFix p m c cc nL s args wsL own) (hW : CW D ad cA kk A aM aC aE X σ s H locs) (hdg : decode cc pc = .ok (.arraylength, 1)) {cells slots : Nat} (kq : W p l e R s m args below meth c H locs cells slots Q (F0 m (pc + 1) ls (.int 60 :: rest))) : W p l e R s m args below meth c H locs cells slots Q (F0 m pc ls (.ref (ad 4) :: rest)) := by
  obtain ⟨⟨lm, la, lc, lr, hP, hD, hL⟩, hE, hF, hS⟩ := hW
  exact va_alen (v := 60) S.1 S.2.1 hE.1 hP 4 1 rfl rfl rfl hdg kq
theorem xal_5 (S : CallFix p m c cc nL s args wsL own) (hW : CW D ad cA kk A aM aC aE X σ s H locs) (hdg : decode cc pc = .ok (.arraylength, 1)) {cells slots : Nat} (kq : W p l e R s m args below meth c H locs cells slots Q (F0 m (pc + 1) ls (.int 60 :: rest))) : W p l e R s m args below meth c H locs cells slots Q (F0 m pc ls (.ref (ad 5) :: rest)) := by
  obtain ⟨⟨lm, la, lc, lr, hP, hD, hL⟩, hE, hF, hS⟩ := hW
  exact va_alen (v := 60) S.1 S.2.1 hE.1 hP 5 2 rfl rfl rfl hdg kq
theorem xal_6 (S : CallFix p m c cc nL s args wsL own) (hW : CW D ad cA kk A aM aC aE X σ s H locs) (hdg : decode cc pc = .ok (.arraylength, 1)) {cells slots : Nat} (kq : W p l e R s m args below meth c H locs cells slots Q (F0 m (pc + 1) ls (.int 60 :: rest))) : W p l e R s m args below meth c H locs cells slots Q (F0 m pc ls (.ref (ad 6) :: rest)) := by
  obtain ⟨⟨lm, la, lc, lr, hP, hD, hL⟩, hE, hF, hS⟩ := hW
  exact va_alen (v := 60) S.1 S.2.1 hE.1 hP 6 3 rfl rfl rfl hdg kq
theorem xal_9 (S : CallFix p m c cc nL s args wsL own) (hW : CW D ad cA kk A aM aC aE X σ s H locs) (hdg : decode cc pc = .ok (.arraylength, 1)) {cells slots : Nat} (kq : W p l e R s m args below meth c H locs cells slots Q (F0 m (pc + 1) ls (.int 10 :: rest))) : W p l e R s m args below meth c H locs cells slots Q (F0 m pc ls (.ref (ad 9) :: rest)) := by
  obtain ⟨⟨lm, la, lc, lr, hP, hD, hL⟩, hE, hF, hS⟩ := hW
  exact va_alen (v := 10) S.1 S.2.1 hE.1 hP 9 4 rfl rfl rfl hdg kq
theorem xal_10 (S : CallFix p m c cc nL s args wsL own) (hW : CW D ad cA kk A aM aC aE X σ s H locs) (hdg : decode cc pc = .ok (.arraylength, 1)) {cells slots : Nat} (kq : W p l e R s m args below meth c H locs cells slots Q (F0 m (pc + 1) ls (.int 10 :: rest))) : W p l e R s m args below meth c H locs cells slots Q (F0 m pc ls (.ref (ad 10) :: rest)) := by
  obtain ⟨⟨lm, la, lc, lr, hP, hD, hL⟩, hE, hF, hS⟩ := hW
  exact va_alen (v := 10) S.1 S.2.1 hE.1 hP 10 5 rfl rfl rfl hdg kq
theorem xal_16 (S : CallFix p m c cc nL s args wsL own) (hW : CW D ad cA kk A aM aC aE X σ s H locs) (hdg : decode cc pc = .ok (.arraylength, 1)) {cells slots : Nat} (kq : W p l e R s m args below meth c H locs cells slots Q (F0 m (pc + 1) ls (.int 4 :: rest))) : W p l e R s m args below meth c H locs cells slots Q (F0 m pc ls (.ref (ad 16) :: rest)) := by
  obtain ⟨⟨lm, la, lc, lr, hP, hD, hL⟩, hE, hF, hS⟩ := hW
  exact va_alen (v := 4) S.1 S.2.1 hE.1 hP 16 6 rfl rfl rfl hdg kq
theorem xal_17 (S : CallFix p m c cc nL s args wsL own) (hW : CW D ad cA kk A aM aC aE X σ s H locs) (hdg : decode cc pc = .ok (.arraylength, 1)) {cells slots : Nat} (kq : W p l e R s m args below meth c H locs cells slots Q (F0 m (pc + 1) ls (.int 9 :: rest))) : W p l e R s m args below meth c H locs cells slots Q (F0 m pc ls (.ref (ad 17) :: rest)) := by
  obtain ⟨⟨lm, la, lc, lr, hP, hD, hL⟩, hE, hF, hS⟩ := hW
  exact va_alen (v := 9) S.1 S.2.1 hE.1 hP 17 7 rfl rfl rfl hdg kq
theorem xal_19 (S : CallFix p m c cc nL s args wsL own) (hW : CW D ad cA kk A aM aC aE X σ s H locs) (hdg : decode cc pc = .ok (.arraylength, 1)) {cells slots : Nat} (kq : W p l e R s m args below meth c H locs cells slots Q (F0 m (pc + 1) ls (.int 180 :: rest))) : W p l e R s m args below meth c H locs cells slots Q (F0 m pc ls (.ref (ad 19) :: rest)) := by
  obtain ⟨⟨lm, la, lc, lr, hP, hD, hL⟩, hE, hF, hS⟩ := hW
  exact va_alen (v := 180) S.1 S.2.1 hE.1 hP 19 8 rfl rfl rfl hdg kq
theorem xal_20 (S : CallFix p m c cc nL s args wsL own) (hW : CW D ad cA kk A aM aC aE X σ s H locs) (hdg : decode cc pc = .ok (.arraylength, 1)) {cells slots : Nat} (kq : W p l e R s m args below meth c H locs cells slots Q (F0 m (pc + 1) ls (.int 180 :: rest))) : W p l e R s m args below meth c H locs cells slots Q (F0 m pc ls (.ref (ad 20) :: rest)) := by
  obtain ⟨⟨lm, la, lc, lr, hP, hD, hL⟩, hE, hF, hS⟩ := hW
  exact va_alen (v := 180) S.1 S.2.1 hE.1 hP 20 9 rfl rfl rfl hdg kq
theorem xal_21 (S : CallFix p m c cc nL s args wsL own) (hW : CW D ad cA kk A aM aC aE X σ s H locs) (hdg : decode cc pc = .ok (.arraylength, 1)) {cells slots : Nat} (kq : W p l e R s m args below meth c H locs cells slots Q (F0 m (pc + 1) ls (.int 11 :: rest))) : W p l e R s m args below meth c H locs cells slots Q (F0 m pc ls (.ref (ad 21) :: rest)) := by
  obtain ⟨⟨lm, la, lc, lr, hP, hD, hL⟩, hE, hF, hS⟩ := hW
  exact va_alen (v := 11) S.1 S.2.1 hE.1 hP 21 10 rfl rfl rfl hdg kq
end CF
