/-! small words over Option -/
theorem bd_of {α β : Type} {x : Option α} {f : α → Option β} {r : β} (h : Option.bind x f = some r) : ∃ u, x = some u ∧ f u = some r := by
  cases x with
  | none => cases h
  | some u => exact ⟨u, rfl, h⟩
theorem it_pos {α : Type} {c : Prop} {d : Decidable c} {a b : α} {r : α} (hc : c) (h : @ite α c d a b = r) : a = r := by rw [← h, if_pos hc]
theorem it_neg {α : Type} {c : Prop} {d : Decidable c} {a b : α} {r : α} (hc : ¬ c) (h : @ite α c d a b = r) : b = r := by rw [← h, if_neg hc]
theorem gd_of {α : Type} {c : Prop} {d : Decidable c} {e : Option α} {r : α} (h : @ite (Option α) c d none e = some r) : ¬ c ∧ e = some r := by
  by_cases hc : c
  · rw [if_pos hc] at h; cases h
  · rw [if_neg hc] at h; exact ⟨hc, h⟩
theorem gt_of {α : Type} {c : Prop} {d : Decidable c} {e : Option α} {r : α} (h : @ite (Option α) c d e none = some r) : c ∧ e = some r := by
  by_cases hc : c
  · rw [if_pos hc] at h; exact ⟨hc, h⟩
  · rw [if_neg hc] at h; cases h
theorem bool_nar {v : Int32} (h : v = 0 ∨ v = 1) : narrow .boolean (.int v) = .int v := by rcases h with rfl | rfl <;> rfl
theorem sw_ne {x k : Int32} (h : ¬ x = k) : x.toInt ≠ k.toInt := fun e => h (Int32.toInt_inj.mp e)
theorem gd_V {own C : String} {idx : Nat} {y : MethodName} {b : ByteArray} {n : Nat} {r : Option FieldType} (h1 : Cond.methodLink own idx y ∈ wsL) (h2 : Cond.instanceMethod y ∈ wsL) (h3 : Cond.selects C y y ∈ wsL) (h4 : Cond.initialized C ∈ wsL) (h5 : Cond.code y b n r ∈ wsL) : GoodIn wsL (wsV own idx C y (Cond.code y b n r :: wsL)) := by
  intro w hw
  have hm : w ∈ wsL := by
    simp only [wsV, List.cons_append, List.nil_append, List.mem_cons] at hw
    rcases hw with rfl | rfl | rfl | rfl | rfl | hw <;> assumption
  exact ⟨hm, ws_gd w hm⟩
theorem gd_S {own : String} {idx : Nat} {y : MethodName} {b : ByteArray} {n : Nat} {r : Option FieldType} (h1 : Cond.methodLink own idx y ∈ wsL) (h2 : Cond.static y ∈ wsL) (h4 : Cond.initialized y.cls ∈ wsL) (h5 : Cond.code y b n r ∈ wsL) : GoodIn wsL (va_wsS own idx y (Cond.code y b n r :: wsL)) := by
  intro w hw
  have hm : w ∈ wsL := by
    simp only [va_wsS, List.cons_append, List.nil_append, List.mem_cons] at hw
    rcases hw with rfl | rfl | rfl | rfl | hw <;> assumption
  exact ⟨hm, ws_gd w hm⟩
theorem gd_I {y : MethodName} {b : ByteArray} {n : Nat} {r : Option FieldType} (h5 : Cond.code y b n r ∈ wsL) : GoodIn wsL (Cond.code y b n r :: wsL) := by
  intro w hw
  have hm : w ∈ wsL := by
    simp only [List.mem_cons] at hw
    rcases hw with rfl | hw <;> assumption
  exact ⟨hm, ws_gd w hm⟩
/-! contracts: the world before is P, the world behind it P', A may change; the answer is r -/
def Mi (l : Launch) (y : MethodName) (b : ByteArray) (n : Nat) (rt : FieldType) (rm : Room) (As : List Value) (P : State → Prop) (r : Int32) (P' : State → Prop) (A : Nat → Prop) : Prop := Met l y (Cond.code y b n (some rt) :: wsL) rm (va_Pc As P) (va_Qi (fun x (_ : Unit) => x = r) (fun _ t => P' t) A) rm.cells rm.slots A
def Ml (l : Launch) (y : MethodName) (b : ByteArray) (n : Nat) (rm : Room) (As : List Value) (P : State → Prop) (r : Int64) (P' : State → Prop) (A : Nat → Prop) : Prop := Met l y (Cond.code y b n (some .long) :: wsL) rm (va_Pc As P) (va_Ql (fun x (_ : Unit) => x = r) (fun _ t => P' t) A) rm.cells rm.slots A
def Mv (l : Launch) (y : MethodName) (b : ByteArray) (n : Nat) (rm : Room) (As : List Value) (P : State → Prop) (P' : State → Prop) (A : Nat → Prop) : Prop := Met l y (Cond.code y b n none :: wsL) rm (va_Pc As P) (va_Qv (fun (_ : Unit) => True) (fun _ t => P' t) A) rm.cells rm.slots A
/-- a static method without a world -/
def Ms (l : Launch) (y : MethodName) (b : ByteArray) (n : Nat) (rt : FieldType) (rm : Room) (As : List Value) (r : Int32) : Prop := Met l y (Cond.code y b n (some rt) :: wsL) rm (va_Pc As (fun _ => True)) (vp_Si (fun x => x = r)) 0 0 (fun _ => False)
theorem Mi.of {l : Launch} {y : MethodName} {b : ByteArray} {n : Nat} {rt : FieldType} {rm : Room} {As : List Value} {P : State → Prop} {r : Int32} {P' : State → Prop} {A : Nat → Prop} {own : String} (ho : y.cls = own) (hy : plainName y.cls = true) (hAs : (lg_sl As).length ≤ n)
    (body : ∀ (p : Program) (e : Env) (s : State) (m : MethodId) (args : Array Value) (below : List Frame) (meth : Method) (c : Code) (ls : Array Slot), CallFix p m c b n s args wsL own → meth.sig.returnType = some rt → meth.locks = false → P s → lv_has ls n (lv_args 0 As) → W p l e rm s m args below meth c s.heap [] 0 0 (MQ below (va_Qi (fun x (_ : Unit) => x = r) (fun _ t => P' t) A) args s rm.cells rm.slots A) (F0 m 0 ls [])) : Mi l y b n rt rm As P r P' A := by
  subst ho
  refine Met.ofW (cc := b) (maxL := n) (ret := some rt) hy rfl ?_
  intro p e s m args below meth c s₁ B hml hv
  obtain ⟨rfl, hP⟩ := hv
  have hts := atoms_spec (ws := Cond.code y b n (some rt) :: wsL) B.pre
  rw [lg_entry_eq]
  exact body p e s m _ below meth c _ ⟨B.exec, B.bytes, hml, findClass_of_methodNamed B.named, fun w h => hts w (List.mem_cons_of_mem _ h)⟩ B.returns B.notSynchronized hP (lv_entry As hAs)
theorem Ml.of {l : Launch} {y : MethodName} {b : ByteArray} {n : Nat} {rm : Room} {As : List Value} {P : State → Prop} {r : Int64} {P' : State → Prop} {A : Nat → Prop} {own : String} (ho : y.cls = own) (hy : plainName y.cls = true) (hAs : (lg_sl As).length ≤ n)
    (body : ∀ (p : Program) (e : Env) (s : State) (m : MethodId) (args : Array Value) (below : List Frame) (meth : Method) (c : Code) (ls : Array Slot), CallFix p m c b n s args wsL own → meth.sig.returnType = some .long → meth.locks = false → P s → lv_has ls n (lv_args 0 As) → W p l e rm s m args below meth c s.heap [] 0 0 (MQ below (va_Ql (fun x (_ : Unit) => x = r) (fun _ t => P' t) A) args s rm.cells rm.slots A) (F0 m 0 ls [])) : Ml l y b n rm As P r P' A := by
  subst ho
  refine Met.ofW (cc := b) (maxL := n) (ret := some .long) hy rfl ?_
  intro p e s m args below meth c s₁ B hml hv
  obtain ⟨rfl, hP⟩ := hv
  have hts := atoms_spec (ws := Cond.code y b n (some .long) :: wsL) B.pre
  rw [lg_entry_eq]
  exact body p e s m _ below meth c _ ⟨B.exec, B.bytes, hml, findClass_of_methodNamed B.named, fun w h => hts w (List.mem_cons_of_mem _ h)⟩ B.returns B.notSynchronized hP (lv_entry As hAs)
theorem Mv.of {l : Launch} {y : MethodName} {b : ByteArray} {n : Nat} {rm : Room} {As : List Value} {P : State → Prop} {P' : State → Prop} {A : Nat → Prop} {own : String} (ho : y.cls = own) (hy : plainName y.cls = true) (hAs : (lg_sl As).length ≤ n)
    (body : ∀ (p : Program) (e : Env) (s : State) (m : MethodId) (args : Array Value) (below : List Frame) (meth : Method) (c : Code) (ls : Array Slot), CallFix p m c b n s args wsL own → meth.sig.returnType = none → meth.locks = false → P s → lv_has ls n (lv_args 0 As) → meth.name = y.name → W p l e rm s m args below meth c s.heap [] 0 0 (MQ below (va_Qv (fun (_ : Unit) => True) (fun _ t => P' t) A) args s rm.cells rm.slots A) (F0 m 0 ls [])) : Mv l y b n rm As P P' A := by
  subst ho
  refine Met.ofW (cc := b) (maxL := n) (ret := none) hy rfl ?_
  intro p e s m args below meth c s₁ B hml hv
  obtain ⟨rfl, hP⟩ := hv
  have hts := atoms_spec (ws := Cond.code y b n none :: wsL) B.pre
  rw [lg_entry_eq]
  exact body p e s m _ below meth c _ ⟨B.exec, B.bytes, hml, findClass_of_methodNamed B.named, fun w h => hts w (List.mem_cons_of_mem _ h)⟩ B.returns B.notSynchronized hP (lv_entry As hAs) (name_of_methodNamed B.named B.method).1
theorem Ms.of {l : Launch} {y : MethodName} {b : ByteArray} {n : Nat} {rt : FieldType} {rm : Room} {As : List Value} {r : Int32} {own : String} (ho : y.cls = own) (hy : plainName y.cls = true) (hAs : (lg_sl As).length ≤ n)
    (body : ∀ (p : Program) (e : Env) (s : State) (m : MethodId) (args : Array Value) (below : List Frame) (meth : Method) (c : Code) (ls : Array Slot), CallFix p m c b n s args wsL own → meth.sig.returnType = some rt → meth.locks = false → lv_has ls n (lv_args 0 As) → W p l e rm s m args below meth c s.heap [] 0 0 (MQ below (vp_Si (fun x => x = r)) args s 0 0 (fun _ => False)) (F0 m 0 ls [])) : Ms l y b n rt rm As r := by
  subst ho
  refine Met.ofW (cc := b) (maxL := n) (ret := some rt) hy rfl ?_
  intro p e s m args below meth c s₁ B hml hv
  obtain ⟨rfl, -⟩ := hv
  have hts := atoms_spec (ws := Cond.code y b n (some rt) :: wsL) B.pre
  rw [lg_entry_eq]
  exact body p e s m _ below meth c _ ⟨B.exec, B.bytes, hml, findClass_of_methodNamed B.named, fun w h => hts w (List.mem_cons_of_mem _ h)⟩ B.returns B.notSynchronized (lv_entry As hAs)
section FR
variable {p : Program} {l : Launch} {e : Env} {R : Room} {s : State} {m : MethodId} {args : Array Value} {below : List Frame} {meth : Method} {c : Code} {H : Heap} {locs : List Loc} {cells slots : Nat} {Q : State → Prop} {cc : ByteArray} {nL pc : Nat} {ls : Array Slot} {rest st : List Value} {own : String}
theorem rs_i {rt : FieldType} {v r : Int32} (S : CallFix p m c cc nL s args wsL own) (hr : meth.sig.returnType = some rt) (hlk : meth.locks = false) (hn : narrow rt (.int v) = .int v) (hv : v = r) (hdg : decode cc pc = .ok (.ireturn, 1)) : W p l e R s m args below meth c s.heap [] 0 0 (MQ below (vp_Si (fun x => x = r)) args s 0 0 (fun _ => False)) (F0 m pc ls [.int v]) :=
  W.zret S.1 S.2.1 hr hn (fun t ht hW => ⟨v, rfl, hv, ht⟩) (fun q h => absurd h List.not_mem_nil) hdg hlk
theorem sc_i {y : MethodName} {b : ByteArray} {n k idx : Nat} {rt : FieldType} {rm : Room} {As : List Value} {r : Int32} (hM : Ms l y b n rt rm As r) (S : CallFix p m c cc nL s args wsL own) (hG : GoodIn wsL (va_wsS own idx y (Cond.code y b n (some rt) :: wsL))) (hrc : rm.cells = 0) (hrs : rm.slots = 0)
    (hd : y.cls ≠ "java/lang/invoke/MethodHandle" ∧ y.cls ≠ "java/lang/invoke/VarHandle" ∧ (parseMethodDescriptor y.desc).map (fun d => d.parameters.length) = some k) (hR : rm.frames + 1 ≤ R.frames ∧ 8 + (n + 11) + rm.locals ≤ R.locals) (hk : As.length = k) (hsz : ls.size = nL) (hst : st = As.reverse ++ rest) (hrm : (rest.map fun v => v.category).sum ≤ 8) (hcs : cells ≤ R.cells ∧ slots ≤ R.slots) (hdg : decode cc pc = .ok (.invokestatic idx, 3))
    (kk : W p l e R s m args below meth c H locs cells slots Q (F0 m (pc + 3) ls (.int r :: rest))) : W p l e R s m args below meth c H locs cells slots Q (F0 m pc ls st) := by
  refine vp_callSi (rest := rest) (W.runS (As := As) (rest := rest) (n := k) S hM (va_cwS k S.2.2.2.2 hG rfl hrc hrs hd hR) ⟨fun a U g mk q => ⟨q.1, trivial⟩, fun U hU hW => ⟨rfl, trivial⟩⟩ rfl hk hsz hst (lv_room hrm) hdg ⟨by omega, by omega⟩) ?_
  intro r' e
  subst e
  exact kk
theorem jn1 {g : JFrame} (Kp : Heap → List Loc → Array Slot → Prop) (pcJ : Nat) (st : List Value) (h1 : ∀ (H : Heap) (locs : List Loc) (ls : Array Slot), Kp H locs ls → W p l e R s m args below meth c H locs cells slots Q (F0 m pcJ ls st)) (h2 : (∀ (H : Heap) (locs : List Loc) (ls : Array Slot), Kp H locs ls → W p l e R s m args below meth c H locs cells slots Q (F0 m pcJ ls st)) → W p l e R s m args below meth c H locs cells slots Q g) : W p l e R s m args below meth c H locs cells slots Q g := h2 h1
theorem lpW {α β : Type} (Inv : α → Heap → List Loc → Array Slot → Prop) (pcH : Nat) (Lf : Nat → α → Option β) (v : β) (hz : ∀ x, Lf 0 x = none)
    (step : ∀ (n : Nat) (x : α), (∀ (y : α), Lf n y = some v → ∀ (H : Heap) (locs : List Loc) (ls : Array Slot), Inv y H locs ls → W p l e R s m args below meth c H locs cells slots Q (F0 m pcH ls [])) → Lf (n + 1) x = some v → ∀ (H : Heap) (locs : List Loc) (ls : Array Slot), Inv x H locs ls → W p l e R s m args below meth c H locs cells slots Q (F0 m pcH ls [])) :
    ∀ (n : Nat) (x : α), Lf n x = some v → ∀ (H : Heap) (locs : List Loc) (ls : Array Slot), Inv x H locs ls → W p l e R s m args below meth c H locs cells slots Q (F0 m pcH ls []) := by
  intro n
  induction n with
  | zero => intro x h; rw [hz x] at h; cases h
  | succ n ih => intro x h; exact step n x ih h
end FR
section RC
variable {p : Program} {l : Launch} {e : Env} {R : Room} {s : State} {m : MethodId} {args : Array Value} {below : List Frame} {meth : Method} {c : Code} {H : Heap} {locs : List Loc} {Q : State → Prop} {cc : ByteArray} {nL pc : Nat} {ls : Array Slot} {rest st : List Value} {own : String} {D : va_G} {ad : Nat → Nat} {cA : Nat → ClassId} {kk : Nat → Nat} {σ : SR}
theorem RW.start (hd : RD ad) (h : RP D ad cA kk σ s) : RW D ad cA kk σ s (RA ad) s.heap [] := ⟨h.1, hd.D cA σ (fun _ h => h), h.2.1, va_S.rf, h.2.2⟩
theorem RW.done {A : Nat → Prop} (hA : ∀ q, RA ad q → A q) (hW : RW D ad cA kk σ s A H locs) {t : State} (ht : t.heap = H) (hv : s.WarmedH t.vm) : RP D ad cA kk σ t := ⟨by rw [ht]; exact hW.1, va_K.moved hv.alike hW.2.2.1, (hW.2.2.2.2.kept hW.2.2.2.1 ht hv).narrow hA⟩
theorem rr_i {rt : FieldType} {v r : Int32} (S : CallFix p m c cc nL s args wsL own) (hr : meth.sig.returnType = some rt) (hlk : meth.locks = false) (hW : RW D ad cA kk σ s (RA ad) H locs) (hn : narrow rt (.int v) = .int v) (hv : v = r) (hdg : decode cc pc = .ok (.ireturn, 1)) : W p l e R s m args below meth c H locs 0 0 (MQ below (va_Qi (fun x (_ : Unit) => x = r) (fun _ t => RP D ad cA kk σ t) (RA ad)) args s 0 0 (RA ad)) (F0 m pc ls [.int v]) :=
  W.zret S.1 S.2.1 hr hn (fun t ht hw => ⟨⟨v, (), rfl, hv, hW.done (fun _ h => h) ht hw⟩, hW.2.2.2.1.F ht⟩) hW.2.2.2.1.2.2 hdg hlk
theorem rr_l {v r : Int64} (S : CallFix p m c cc nL s args wsL own) (hr : meth.sig.returnType = some .long) (hlk : meth.locks = false) (hW : RW D ad cA kk σ s (RA ad) H locs) (hv : v = r) (hdg : decode cc pc = .ok (.lreturn, 1)) : W p l e R s m args below meth c H locs 0 0 (MQ below (va_Ql (fun x (_ : Unit) => x = r) (fun _ t => RP D ad cA kk σ t) (RA ad)) args s 0 0 (RA ad)) (F0 m pc ls [.long v]) :=
  W.lret S.1 S.2.1 hr (fun t ht hw => ⟨⟨v, (), rfl, hv, hW.done (fun _ h => h) ht hw⟩, hW.2.2.2.1.F ht⟩) hW.2.2.2.1.2.2 hdg hlk
theorem rr_v (S : CallFix p m c cc nL s args wsL own) (hr : meth.sig.returnType = none) (hlk : meth.locks = false) (hW : RW D ad cA kk σ s (RA ad) H locs) (hdg : decode cc pc = .ok (.return_, 1)) : W p l e R s m args below meth c H locs 0 0 (MQ below (va_Qv (fun (_ : Unit) => True) (fun _ t => RP D ad cA kk σ t) (RA ad)) args s 0 0 (RA ad)) (F0 m pc ls []) :=
  W.vret S.1 S.2.1 hr (fun t ht hw => ⟨⟨(), rfl, trivial, hW.done (fun _ h => h) ht hw⟩, hW.2.2.2.1.F ht⟩) hW.2.2.2.1.2.2 hdg hlk
theorem RW.recv {A : Nat → Prop} (hW : RW D ad cA kk σ s A H locs) : ∃ cellB : Cell, H[ad 35]? = some cellB ∧ cellB.vm.isStatics = false ∧ s.vm.findClass RX11 = some cellB.cls := va_recv hW.2.2.1 hW.1 (ci := 12) (q0 := 0) rfl rfl
theorem RW.pre {A : Nat → Prop} (hA : ∀ q, RA ad q → A q) (hW : RW D ad cA kk σ s A H locs) (As : List Value) : PreV s H RX11 (ad 35) (va_Pc (.ref (ad 35) :: As) (RP D ad cA kk σ)) As :=
  ⟨fun a U g mk q => ⟨q.1, q.2.moved⟩, hW.recv, fun U hU hw => ⟨rfl, hW.done hA hU hw⟩⟩
theorem RW.after {A : Nat → Prop} {σ' : SR} (hd : RD ad) (hA : ∀ q, RA ad q → A q) (hC : KC A kk s) {t : State} {H1 : Heap} {locs1 : List Loc} (ht : t.heap = H1) (hvm : s.vm.Alike t.vm) (hB : RP D ad cA kk σ' t) (hS : va_S A s.heap H1 locs1) : RW D ad cA kk σ' s A H1 locs1 := ⟨by rw [← ht]; exact hB.1, hd.D cA σ' hA, va_K.moved hvm.symm hB.2.1, hS, hC⟩
variable {y : MethodName} {b : ByteArray} {n k idx fr lo : Nat} {As : List Value} {σ' : SR} {A : Nat → Prop}
theorem rc_i {rt : FieldType} {r : Int32} (hM : Mi l y b n rt { frames := fr, cells := 0, slots := 0, locals := lo } (.ref (ad 35) :: As) (RP D ad cA kk σ) r (RP D ad cA kk σ') (RA ad)) (hd : RD ad) (hA : ∀ q, RA ad q → A q) (S : CallFix p m c cc nL s args wsL own) (hW : RW D ad cA kk σ s A H locs) (hG : GoodIn wsL (wsV own idx RX11 y (Cond.code y b n (some rt) :: wsL)))
    (hdd : y.cls = RX11 ∧ y.cls ≠ "java/lang/invoke/MethodHandle" ∧ y.cls ≠ "java/lang/invoke/VarHandle" ∧ (parseMethodDescriptor y.desc).map (fun d => d.parameters.length) = some k) (hR : fr + 1 ≤ R.frames ∧ 8 + (n + 11) + lo ≤ R.locals) (hk : As.length = k) (hsz : ls.size = nL) (hst : st = As.reverse ++ .ref (ad 35) :: rest) (hrm : (rest.map fun v => v.category).sum ≤ 8) {cells slots : Nat} (hcs : cells ≤ R.cells ∧ slots ≤ R.slots) (hdg : decode cc pc = .ok (.invokevirtual idx, 3))
    (kk : ∀ (H1 : Heap) (locs1 : List Loc), RW D ad cA kk σ' s A H1 locs1 → W p l e R s m args below meth c H1 locs1 cells slots Q (F0 m (pc + 3) ls (.int r :: rest))) : W p l e R s m args below meth c H locs cells slots Q (F0 m pc ls st) := by
  refine va_calli (va_runV (As := As) (rest := rest) (n := k) S hM (cwV k S.2.2.2.2 hG rfl rfl rfl hdd hR) (hW.pre hA As) rfl hk hsz hst (lv_room hrm) hdg hcs) hW.2.2.2.1 (fun q _ h => hA q h) hA ?_
  intro r' u t H1 locs1 ht hvm hw hB _ _ hS
  subst hw
  exact kk H1 locs1 (RW.after hd hA hW.2.2.2.2 ht hvm hB hS)
theorem rc_l {r : Int64} (hM : Ml l y b n { frames := fr, cells := 0, slots := 0, locals := lo } (.ref (ad 35) :: As) (RP D ad cA kk σ) r (RP D ad cA kk σ') (RA ad)) (hd : RD ad) (hA : ∀ q, RA ad q → A q) (S : CallFix p m c cc nL s args wsL own) (hW : RW D ad cA kk σ s A H locs) (hG : GoodIn wsL (wsV own idx RX11 y (Cond.code y b n (some .long) :: wsL)))
    (hdd : y.cls = RX11 ∧ y.cls ≠ "java/lang/invoke/MethodHandle" ∧ y.cls ≠ "java/lang/invoke/VarHandle" ∧ (parseMethodDescriptor y.desc).map (fun d => d.parameters.length) = some k) (hR : fr + 1 ≤ R.frames ∧ 8 + (n + 11) + lo ≤ R.locals) (hk : As.length = k) (hsz : ls.size = nL) (hst : st = As.reverse ++ .ref (ad 35) :: rest) (hrm : (rest.map fun v => v.category).sum ≤ 8) {cells slots : Nat} (hcs : cells ≤ R.cells ∧ slots ≤ R.slots) (hdg : decode cc pc = .ok (.invokevirtual idx, 3))
    (kk : ∀ (H1 : Heap) (locs1 : List Loc), RW D ad cA kk σ' s A H1 locs1 → W p l e R s m args below meth c H1 locs1 cells slots Q (F0 m (pc + 3) ls (.long r :: rest))) : W p l e R s m args below meth c H locs cells slots Q (F0 m pc ls st) := by
  refine va_calll (va_runV (As := As) (rest := rest) (n := k) S hM (cwV k S.2.2.2.2 hG rfl rfl rfl hdd hR) (hW.pre hA As) rfl hk hsz hst (lv_room hrm) hdg hcs) hW.2.2.2.1 (fun q _ h => hA q h) hA ?_
  intro r' u t H1 locs1 ht hvm hw hB _ _ hS
  subst hw
  exact kk H1 locs1 (RW.after hd hA hW.2.2.2.2 ht hvm hB hS)
theorem rc_v (hM : Mv l y b n { frames := fr, cells := 0, slots := 0, locals := lo } (.ref (ad 35) :: As) (RP D ad cA kk σ) (RP D ad cA kk σ') (RA ad)) (hd : RD ad) (hA : ∀ q, RA ad q → A q) (S : CallFix p m c cc nL s args wsL own) (hW : RW D ad cA kk σ s A H locs) (hG : GoodIn wsL (wsV own idx RX11 y (Cond.code y b n none :: wsL)))
    (hdd : y.cls = RX11 ∧ y.cls ≠ "java/lang/invoke/MethodHandle" ∧ y.cls ≠ "java/lang/invoke/VarHandle" ∧ (parseMethodDescriptor y.desc).map (fun d => d.parameters.length) = some k) (hR : fr + 1 ≤ R.frames ∧ 8 + (n + 11) + lo ≤ R.locals) (hk : As.length = k) (hsz : ls.size = nL) (hst : st = As.reverse ++ .ref (ad 35) :: rest) (hrm : (rest.map fun v => v.category).sum ≤ 8) {cells slots : Nat} (hcs : cells ≤ R.cells ∧ slots ≤ R.slots) (hdg : decode cc pc = .ok (.invokevirtual idx, 3))
    (kk : ∀ (H1 : Heap) (locs1 : List Loc), RW D ad cA kk σ' s A H1 locs1 → W p l e R s m args below meth c H1 locs1 cells slots Q (F0 m (pc + 3) ls rest)) : W p l e R s m args below meth c H locs cells slots Q (F0 m pc ls st) := by
  refine va_callv (va_runV (As := As) (rest := rest) (n := k) S hM (cwV k S.2.2.2.2 hG rfl rfl rfl hdd hR) (hW.pre hA As) rfl hk hsz hst (lv_room hrm) hdg hcs) hW.2.2.2.1 (fun q _ h => hA q h) hA ?_
  intro u t H1 locs1 ht hvm hw hB _ _ hS
  exact kk H1 locs1 (RW.after hd hA hW.2.2.2.2 ht hvm hB hS)
end RC
