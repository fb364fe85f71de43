theorem mx_1220 : (Cond.methodLink RJ1 92 Lib.Math.max.name) ∈ wsL := List.mem_filter.mpr ⟨List.mem_of_getElem? (i := 1220) (by decide +kernel), by decide +kernel⟩
theorem mx_1221 : (Cond.methodLink RJ1 38 Lib.Math.min.name) ∈ wsL := List.mem_filter.mpr ⟨List.mem_of_getElem? (i := 1221) (by decide +kernel), by decide +kernel⟩
theorem mx_256 : (Cond.static Lib.Math.max.name) ∈ wsL := List.mem_filter.mpr ⟨List.mem_of_getElem? (i := 256) (by decide +kernel), by decide +kernel⟩
theorem mx_257 : (Cond.code Lib.Math.max.name Lib.Math.max.code 2 (some .int)) ∈ wsL := List.mem_filter.mpr ⟨List.mem_of_getElem? (i := 257) (by decide +kernel), by decide +kernel⟩
theorem mx_290 : (Cond.static Lib.Math.min.name) ∈ wsL := List.mem_filter.mpr ⟨List.mem_of_getElem? (i := 290) (by decide +kernel), by decide +kernel⟩
theorem mx_291 : (Cond.code Lib.Math.min.name Lib.Math.min.code 2 (some .int)) ∈ wsL := List.mem_filter.mpr ⟨List.mem_of_getElem? (i := 291) (by decide +kernel), by decide +kernel⟩
/-! methods that read what is read only, and change nothing -/
theorem char_nar {v : Int32} (h : (v.toUInt32 % 65536).toInt32 = v) : narrow .char (.int v) = .int v := by have := pk_nc v; rwa [h] at this
/-- a static or virtual method with a pre-condition on the state, which leaves the heap as it was -/
def Mp (l : Launch) (y : MethodName) (b : ByteArray) (n : Nat) (rt : FieldType) (rm : Room) (As : List Value) (P : State → Prop) (r : Int32) : Prop := Met l y (Cond.code y b n (some rt) :: wsL) rm (va_Pc As P) (vp_Si (fun x => x = r)) 0 0 (fun _ => False)
def Mq (l : Launch) (y : MethodName) (b : ByteArray) (n : Nat) (rm : Room) (As : List Value) (P : State → Prop) : Prop := Met l y (Cond.code y b n none :: wsL) rm (va_Pc As P) (va_Sv (fun _ => True)) 0 0 (fun _ => False)
theorem Mp.of {l : Launch} {y : MethodName} {b : ByteArray} {n : Nat} {rt : FieldType} {rm : Room} {As : List Value} {P : State → Prop} {r : Int32} {own : String} (ho : y.cls = own) (hy : plainName y.cls = true) (hAs : (lg_sl As).length ≤ n)
    (body : ∀ (p : Program) (e : Env) (s : State) (m : MethodId) (args : Array Value) (below : List Frame) (meth : Method) (c : Code) (ls : Array Slot), CallFix p m c b n s args wsL own → meth.sig.returnType = some rt → meth.locks = false → P s → lv_has ls n (lv_args 0 As) → W p l e rm s m args below meth c s.heap [] 0 0 (MQ below (vp_Si (fun x => x = r)) args s 0 0 (fun _ => False)) (F0 m 0 ls [])) : Mp l y b n rt rm As P r := by
  subst ho
  refine Met.ofW (cc := b) (maxL := n) (ret := some rt) hy rfl ?_
  intro p e s m args below meth c s₁ B hml hv
  obtain ⟨rfl, hP⟩ := hv
  have hts := atoms_spec (ws := Cond.code y b n (some rt) :: wsL) B.pre
  rw [lg_entry_eq]
  exact body p e s m _ below meth c _ ⟨B.exec, B.bytes, hml, findClass_of_methodNamed B.named, fun w h => hts w (List.mem_cons_of_mem _ h)⟩ B.returns B.notSynchronized hP (lv_entry As hAs)
theorem Mq.of {l : Launch} {y : MethodName} {b : ByteArray} {n : Nat} {rm : Room} {As : List Value} {P : State → Prop} {own : String} (ho : y.cls = own) (hy : plainName y.cls = true) (hAs : (lg_sl As).length ≤ n)
    (body : ∀ (p : Program) (e : Env) (s : State) (m : MethodId) (args : Array Value) (below : List Frame) (meth : Method) (c : Code) (ls : Array Slot), CallFix p m c b n s args wsL own → meth.sig.returnType = none → meth.locks = false → P s → lv_has ls n (lv_args 0 As) → W p l e rm s m args below meth c s.heap [] 0 0 (MQ below (va_Sv (fun _ => True)) args s 0 0 (fun _ => False)) (F0 m 0 ls [])) : Mq l y b n rm As P := by
  subst ho
  refine Met.ofW (cc := b) (maxL := n) (ret := none) hy rfl ?_
  intro p e s m args below meth c s₁ B hml hv
  obtain ⟨rfl, hP⟩ := hv
  have hts := atoms_spec (ws := Cond.code y b n none :: wsL) B.pre
  rw [lg_entry_eq]
  exact body p e s m _ below meth c _ ⟨B.exec, B.bytes, hml, findClass_of_methodNamed B.named, fun w h => hts w (List.mem_cons_of_mem _ h)⟩ B.returns B.notSynchronized hP (lv_entry As hAs)
section KK
variable {p : Program} {l : Launch} {e : Env} {R : Room} {s : State} {m : MethodId} {args : Array Value} {below : List Frame} {meth : Method} {c : Code} {H : Heap} {locs : List Loc} {cells slots : Nat} {Q : State → Prop} {cc : ByteArray} {nL pc : Nat} {ls : Array Slot} {rest st : List Value} {own : String} {y : MethodName} {b : ByteArray} {n k idx : Nat} {rm : Room} {As : List Value} {P : State → Prop}
theorem rs_v (S : CallFix p m c cc nL s args wsL own) (hr : meth.sig.returnType = none) (hlk : meth.locks = false) (hdg : decode cc pc = .ok (.return_, 1)) : W p l e R s m args below meth c s.heap [] 0 0 (MQ below (va_Sv (fun _ => True)) args s 0 0 (fun _ => False)) (F0 m pc ls []) :=
  W.vret S.1 S.2.1 hr (fun t ht hW => ⟨rfl, trivial, ht⟩) (fun q h => absurd h List.not_mem_nil) hdg hlk
/-- a static call of such a method -/
theorem kc_s {rt : FieldType} {r : Int32} (hM : Mp l y b n rt rm As P r) (hP : ∀ U : State, U.heap = H → s.WarmedH U.vm → P U) (hbl : ∀ (U : State) (g : JFrame) (mk : MethodId) (a : Array Value), P U → P (U.calling g mk a)) (S : CallFix p m c cc nL s args wsL own) (hG : GoodIn wsL (va_wsS own idx y (Cond.code y b n (some rt) :: wsL))) (hrc : rm.cells = 0) (hrs : rm.slots = 0)
    (hd : y.cls ≠ "java/lang/invoke/MethodHandle" ∧ y.cls ≠ "java/lang/invoke/VarHandle" ∧ (parseMethodDescriptor y.desc).map (fun d => d.parameters.length) = some k) (hR : rm.frames + 1 ≤ R.frames ∧ 8 + (n + 11) + rm.locals ≤ R.locals) (hk : As.length = k) (hsz : ls.size = nL) (hst : st = As.reverse ++ rest) (hrm : (rest.map fun v => v.category).sum ≤ 8) (hcs : cells ≤ R.cells ∧ slots ≤ R.slots) (hdg : decode cc pc = .ok (.invokestatic idx, 3))
    (kk : W p l e R s m args below meth c H locs cells slots Q (F0 m (pc + 3) ls (.int r :: rest))) : W p l e R s m args below meth c H locs cells slots Q (F0 m pc ls st) := by
  refine vp_callSi (rest := rest) (W.runS (As := As) (rest := rest) (n := k) S hM (va_cwS k S.2.2.2.2 hG rfl hrc hrs hd hR) ⟨fun a U g mk q => ⟨q.1, hbl _ _ _ _ q.2⟩, fun U hU hW => ⟨rfl, hP U hU hW⟩⟩ rfl hk hsz hst (lv_room hrm) hdg ⟨by omega, by omega⟩) ?_
  intro r' e
  subst e
  exact kk
theorem kc_sv (hM : Mq l y b n rm As P) (hP : ∀ U : State, U.heap = H → s.WarmedH U.vm → P U) (hbl : ∀ (U : State) (g : JFrame) (mk : MethodId) (a : Array Value), P U → P (U.calling g mk a)) (S : CallFix p m c cc nL s args wsL own) (hG : GoodIn wsL (va_wsS own idx y (Cond.code y b n none :: wsL))) (hrc : rm.cells = 0) (hrs : rm.slots = 0)
    (hd : y.cls ≠ "java/lang/invoke/MethodHandle" ∧ y.cls ≠ "java/lang/invoke/VarHandle" ∧ (parseMethodDescriptor y.desc).map (fun d => d.parameters.length) = some k) (hR : rm.frames + 1 ≤ R.frames ∧ 8 + (n + 11) + rm.locals ≤ R.locals) (hk : As.length = k) (hsz : ls.size = nL) (hst : st = As.reverse ++ rest) (hrm : (rest.map fun v => v.category).sum ≤ 8) (hcs : cells ≤ R.cells ∧ slots ≤ R.slots) (hdg : decode cc pc = .ok (.invokestatic idx, 3))
    (kk : W p l e R s m args below meth c H locs cells slots Q (F0 m (pc + 3) ls rest)) : W p l e R s m args below meth c H locs cells slots Q (F0 m pc ls st) := by
  exact va_csv (rest := rest) (W.runS (As := As) (rest := rest) (n := k) S hM (va_cwS k S.2.2.2.2 hG rfl hrc hrs hd hR) ⟨fun a U g mk q => ⟨q.1, hbl _ _ _ _ q.2⟩, fun U hU hW => ⟨rfl, hP U hU hW⟩⟩ rfl hk hsz hst (lv_room hrm) hdg ⟨by omega, by omega⟩) (fun _ => kk)
/-- a virtual call of such a method -/
theorem kc_i {C : String} {rt : FieldType} {q : Nat} {r : Int32} (hM : Mp l y b n rt rm (.ref q :: As) P r) (hP : ∀ U : State, U.heap = H → s.WarmedH U.vm → P U) (hbl : ∀ (U : State) (g : JFrame) (mk : MethodId) (a : Array Value), P U → P (U.calling g mk a)) (hrecv : ∃ cellB : Cell, H[q]? = some cellB ∧ cellB.vm.isStatics = false ∧ s.vm.findClass C = some cellB.cls) (S : CallFix p m c cc nL s args wsL own) (hG : GoodIn wsL (wsV own idx C y (Cond.code y b n (some rt) :: wsL))) (hrc : rm.cells = 0) (hrs : rm.slots = 0)
    (hd : y.cls = C ∧ y.cls ≠ "java/lang/invoke/MethodHandle" ∧ y.cls ≠ "java/lang/invoke/VarHandle" ∧ (parseMethodDescriptor y.desc).map (fun d => d.parameters.length) = some k) (hR : rm.frames + 1 ≤ R.frames ∧ 8 + (n + 11) + rm.locals ≤ R.locals) (hk : As.length = k) (hsz : ls.size = nL) (hst : st = As.reverse ++ .ref q :: rest) (hrm : (rest.map fun v => v.category).sum ≤ 8) (hcs : cells ≤ R.cells ∧ slots ≤ R.slots) (hdg : decode cc pc = .ok (.invokevirtual idx, 3))
    (kk : W p l e R s m args below meth c H locs cells slots Q (F0 m (pc + 3) ls (.int r :: rest))) : W p l e R s m args below meth c H locs cells slots Q (F0 m pc ls st) := by
  refine vp_callSi (rest := rest) (W.runV (As := As) (rest := rest) (n := k) S hM (cwV k S.2.2.2.2 hG rfl hrc hrs hd hR) ⟨fun a U g mk q => ⟨q.1, hbl _ _ _ _ q.2⟩, hrecv, fun U hU hW => ⟨rfl, hP U hU hW⟩⟩ rfl hk hsz hst (lv_room hrm) hdg ⟨by omega, by omega⟩) ?_
  intro r' e
  subst e
  exact kk
end KK
theorem k8 {A : Nat → Prop} {kk : Nat → Nat} {s : State} (hC : KC A kk s) : vk_R RX11 118 "limit late bonus gift debt dun end part " (kk 8) s := hC.2.1 8 ("BookClubModel", 118, "limit late bonus gift debt dun end part ") rfl
theorem k8r {A : Nat → Prop} {kk : Nat → Nat} {s : State} {H : Heap} {locs : List Loc} (hC : KC A kk s) (hS : va_S A s.heap H locs) : ∃ cell : Cell, H[kk 8]? = some cell ∧ cell.vm.isStatics = false ∧ s.vm.findClass RJ0 = some cell.cls := vk_recv hC.1 (by decide) hS
