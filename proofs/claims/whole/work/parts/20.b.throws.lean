
/-! an exception whose constructor passes its text up by an index of its own (NoSuchElementException: 13): made and thrown, with no trace kept -/
section TX
variable {p : Program} {l : Launch} {e : Env} {R : Room} {s : State} {m : MethodId} {args : Array Value} {below : List Frame} {meth : Method} {c : Code} {T1 : State} {locs : List Loc} {cells slots : Nat}
set_option maxHeartbeats 2000000 in
theorem tx_ctor (X : Stand p l e R s m args below meth c T1 locs cells slots) (hexec : p.tables.exec = Jvm.exec) (htr : e.platform.stackTraces = false) {own cls : String} {names : List String} {ic ix : Nat} {rx : ByteArray}
    (x0 : decode rx 0 = .ok (.aload_n 0, 1)) (x1 : decode rx 1 = .ok (.aload_n 1, 1)) (x2 : decode rx 2 = .ok (.invokespecial ix, 3)) (x5 : decode rx 5 = .ok (.return_, 1))
    (hown : s.vm.findClass own = some m.cls) (hcls : Bundle.fit cls = true) (hnames : ∀ n ∈ names, Bundle.fit n = true) (h : ∀ w ∈ Bundle.ownAtomsX own ic cls ix rx names, w.before args s = true)
    (hlocs : ∀ x ∈ locs, ∀ cell, s.heap[x.base]? = some cell → cell.vm.isStatics = false)
    {a : Addr} {cX : ClassId} {kX : Class} (hfX : s.vm.findClass cls = some cX) (hkX : s.vm.classes[cX]? = some kX) (hcell : T1.heap[a]? = some (freshCell cX kX)) (hnew : s.heap.size ≤ a) {msg : Value} (hmsg : msg.isRef = true)
    {g : JFrame} (hg : g.method = m) (hsize : g.locals.size = c.maxLocals) (hlocked : g.locked = none) (hentered : g.entered = []) {rest : List Value} (hstack : g.stack = msg :: .ref a :: .ref a :: rest)
    (d6 : decode c.code g.pc = .ok (.invokespecial ic, 3)) (d9 : decode c.code (g.pc + 3) = .ok (.athrow, 1)) (hout : ∀ x ∈ c.exceptionTable.toList, covers x (g.pc + 3) = false)
    (hRf : names.length + 3 < R.frames) (hRl : 2 * g.monitorRoom + ((Value.ref a :: rest).map fun v => v.category).sum + (13 * (names.length + 1) + 42) ≤ R.locals) (hlocks : meth.locks = false) :
    ∃ U : State, Steps p.tables e below (T1.setTop g) U ∧ U.status = .running ∧ Ended U below (.threw a) ∧ s.WarmedH U.vm ∧ s.sameButNew ({ U with vm := s.vm } : State) locs cells slots ∧ ∃ ce, U.heap[a]? = some ce ∧ s.vm.findClass cls = some ce.cls ∧ ce.vm = .none := by
  have hpl : e.platform.magicAccessors = ({} : Platform).magicAccessors := by rw [X.admits.platform]
  have q : ∀ w, w ∈ Bundle.ownAtomsX own ic cls ix rx names → w.holds args s none s [] = true := fun w hw => h w hw
  obtain ⟨T, Z0, L, -, Y⟩ := ThrowableC.of_atoms (args := args) (show e.platform.frameOwnsMonitors = true by rw [X.admits.platform]) (show e.platform.finalization = false by rw [X.admits.platform]) hpl (fun w hw => h w (by simp [Bundle.ownAtomsX, hw]))
  obtain ⟨Z, M, LZ, LM, hnZ⟩ := Init0T.ofS_atoms (args := args) hpl L Y (fun w hw => h w (by simp [Bundle.ownAtomsX, hw]))
  obtain ⟨P1, Ps, hlen, L1, hL, hP1, hlk1, hlk⟩ := Bundle.chainSX (args := args) hpl hnZ x0 x1 x2 x5 names cls hcls hnames (fun w hw => h w (by simp [Bundle.ownAtomsX, hw]))
  have hfd : s.vm.findClass cls = some P1.m.cls := findClass_of_methodNamed hP1
  cases Option.some.inj (hfX.symm.trans hfd)
  obtain ⟨_, _, hc1, hk, hord, -, -, -⟩ := Cond.instantiable_spec (q (.instantiable cls 6) (by simp [Bundle.ownAtomsX]))
  cases Option.some.inj (hc1.symm.trans hfd)
  cases Option.some.inj (hkX.symm.trans hk)
  have sel : ∀ {y : MethodName} {k : MethodId}, (Cond.selects cls y y) ∈ Bundle.ownAtomsX own ic cls ix rx names → s.methodFound? y.cls y.name y.desc = some k → s.methodNamed? y = some k → selectMethod e.platform s.vm P1.m.cls k = .method k := by
    intro y k hy h1 h2
    obtain ⟨_, _, _, q1, q2, q3, q4, -⟩ := Cond.selects_spec (q _ hy)
    cases Option.some.inj (q1.symm.trans hfd)
    cases Option.some.inj (q2.symm.trans h1)
    cases Option.some.inj (q3.symm.trans h2)
    rw [Launch.admits_selectMethod X.admits]; exact q4
  have hsel0 := sel (y := Bundle.tFill0) (by simp [Bundle.ownAtomsX]) (State.methodFound?_of_named Y.fill0 (by decide)) Y.fill0
  have hselF := sel (y := Bundle.tFill) (by simp [Bundle.ownAtomsX]) (State.methodFound?_of_named Y.fill (by decide)) Y.fill
  obtain ⟨cell0, hc0, hiss⟩ := Y.statics
  obtain ⟨u0, hu0⟩ := Cond.staticRefV Y.unassigned L.unassignedStatic L.statics hc0 hiss (q (.isRef (.static Bundle.tN "UNASSIGNED_STACK" Bundle.steD)) (by simp [Bundle.ownAtomsX]))
  obtain ⟨sen, hsen⟩ := Cond.staticRefV Y.sentinel L.sentinelStatic L.statics hc0 hiss (q (.isRef (.static Bundle.tN "SUPPRESSED_SENTINEL" Bundle.listD)) (by simp [Bundle.ownAtomsX]))
  obtain ⟨ci198, i198, fB, hk198, hg198, ha198, hsB, -, hnB, htB, hffB⟩ := Cond.ownField (t := .object "java/lang/Object") Y.found L.cls (by decide +kernel) (q (.fieldLink Bundle.tN 198 Bundle.tN "backtrace" "Ljava/lang/Object;") (by simp [Bundle.ownAtomsX])) (q (.lays Bundle.tN Bundle.tN "backtrace" "Ljava/lang/Object;") (by simp [Bundle.ownAtomsX])) e.platform hpl
  obtain ⟨cellS, hcS, heS, -, hkeep⟩ := X.same.2.2.2.2.2 T.aS cell0 hc0
  have hout' : ∀ i, (⟨T.aS, i⟩ : Loc) ∉ locs := fun i hm => by
    have h2 := hlocs _ hm cell0 hc0
    rw [hiss] at h2; cases h2
  have hkn : cellS.vm ≠ .unknown := fun hu => by
    rw [heS] at hu
    rw [show cell0.vm = .unknown from hu] at hiss
    cases hiss
  have hne : T.aS ≠ a := Nat.ne_of_lt (Nat.lt_of_lt_of_le (Array.getElem?_eq_some_iff.mp hc0).1 hnew)
  obtain ⟨iM, hffM⟩ := Y.msg
  obtain ⟨tyC, dC, hdC, hdnC⟩ := Cond.laysAt hfd hk Y.cause (q (.lays cls Bundle.tN "cause" "Ljava/lang/Throwable;") (by simp [Bundle.ownAtomsX]))
  obtain ⟨tyS, dS, hdS, hdnS⟩ := Cond.laysAt hfd hk Y.stack (q (.lays cls Bundle.tN "stackTrace" Bundle.steD) (by simp [Bundle.ownAtomsX]))
  obtain ⟨tyP, dP, hdP, hdnP⟩ := Cond.laysAt hfd hk Y.supp (q (.lays cls Bundle.tN "suppressedExceptions" Bundle.listD) (by simp [Bundle.ownAtomsX]))
  obtain ⟨tyM, dM, hdM, hdnM⟩ := Cond.laysAt hfd hk hffM (q (.lays cls Bundle.tN "detailMessage" "Ljava/lang/String;") (by simp [Bundle.ownAtomsX]))
  obtain ⟨tyB, dB, hdB, hdnB⟩ := Cond.laysAt hfd hk hffB (q (.lays cls Bundle.tN "backtrace" "Ljava/lang/Object;") (by simp [Bundle.ownAtomsX]))
  have bC := Cond.laysApart hdB hdC hdnB hdnC (by rw [hnB, Y.causeName]; decide)
  have bS := Cond.laysApart hdB hdS hdnB hdnS (by rw [hnB, Y.stackName]; decide)
  have bP := Cond.laysApart hdB hdP hdnB hdnP (by rw [hnB, Y.suppName]; decide)
  have hskip : SkipFacts T e.platform s (fun u => u) u0 ((preparedCellV T.toThrowableT (freshCell P1.m.cls kX) a u0 sen).withEntry T1.cur) :=
    ⟨{ ci198 := ci198, i198 := i198, fBack := fB }, ⟨hk198, hg198, ha198, hsB⟩, by
      have h2 := fresh_default (c := P1.m.cls) tyB
      rw [htB] at h2
      simpa [preparedCellV, Cell.setSlot, Cell.withEntry, Array.getElem?_setIfInBounds, bC, bS, bP, bC.symm, bS.symm, bP.symm, defaultValue] using h2, fun _ _ => rfl⟩
  obtain ⟨_, _, _, _, vm₁, hnC, -, -, -, -, -, -, -, hW₁, st1⟩ := Steps.initColdS (tb := p.tables) (e := e) (below := below) (s := s) (U := T1) X.here hexec X.warmed hpl hown (t := Bundle.initS cls) rfl rfl (Bundle.fit_spec hcls).2
    (q (.methodLink own ic (Bundle.initS cls)) (by simp [Bundle.ownAtomsX])) (h (.instanceMethod (Bundle.initS cls)) (by cases names <;> simp [Bundle.ownAtomsX, Bundle.chainSAtomsX, Bundle.passSAtoms])) (bytes := rx) (maxL := 2) (h (.code (Bundle.initS cls) rx 2 none) (by cases names <;> simp [Bundle.ownAtomsX, Bundle.chainSAtomsX, Bundle.passSAtoms]))
    (f := g) hg (a := a) (msg := msg) (rest := .ref a :: rest) hstack d6
  cases Option.some.inj (hnC.symm.trans hP1)
  obtain ⟨vm₂, X₂, st2⟩ := (X.noted hW₁).ctorMessageOffV hexec (g := { g with stack := .ref a :: rest }) hg hsize T L Z LZ M LM (P1 :: Ps)
    (fun P hP => by rcases List.mem_cons.mp hP with rfl | hP; exact L1; exact hL P hP) ⟨hlk1, hlk⟩ (u0 := u0) (sen := sen) (self := a) hmsg (cell := freshCell P1.m.cls kX) (cellS := cellS)
    hcell (fun _ => by simp) (by simp) rfl rfl hsel0 hselF hcS hne hkn (by rw [hkeep _ (hout' _)]; exact hu0) (by rw [hkeep _ (hout' _)]; exact hsen)
    (Takes.of_laid hk hord tyC (by rw [Y.causeType]; rfl)) (Takes.of_laid hk hord tyS (by rw [Y.stackType]; exact fits_refV_array _ u0)) (Takes.of_laid hk hord tyP (by rw [Y.suppType]; exact fits_refV_object _ sen))
    (Takes.of_laid hk hord tyM (by rw [Y.msgType]; exact fits_refV_object _ ⟨msg, hmsg⟩)) Y.objLocals hskip htr [] d6
    (by simp only [List.length_cons, hlen]; omega) (by simp only [List.length_cons, hlen]; exact hRl)
  obtain ⟨hwalk, hrun, hended, hWU, hsame⟩ := X₂.athrowLeaves hexec (g := { g with stack := .ref a :: rest, pc := g.pc + 3 }) hg hlocked hentered hout (a := a) (rest := rest) rfl d9
  have hlt : a < ((T1.setVm vm₁).setVm vm₂).heap.size := (Array.getElem?_eq_some_iff.mp hcell).1
  have hU := heapAt_setCell_self (s := (T1.setVm vm₁).setVm vm₂) (plainBareV T.toThrowableT (freshCell P1.m.cls kX) a u0 sen msg) hlt
  refine ⟨_, st1 _ (fun acts => ?_), hrun, hended, hWU, hsame.weaken (fun y hy hl2 => ?_) (Nat.le_refl _) (Nat.le_refl _), _, hU, hfd, rfl⟩
  · rw [doInvoke_state]
    exact st2 _ hwalk
  · rcases List.mem_append.mp hy with h1 | h1
    · exact h1
    · have hb : y.base = a := by
        simp only [List.mem_cons, List.not_mem_nil, or_false] at h1
        rcases h1 with rfl | rfl | rfl | rfl | rfl <;> rfl
      rw [hb] at hl2
      exact absurd hl2 (Nat.not_lt.mpr hnew)
end TX
def tx_at (own : String) (ic : Nat) (X : String) (ix : Nat) (rx : ByteArray) (names : List String) : List Cond := (Bundle.ownAtomsX own ic X ix rx names).filter vx_no
section TXS
variable {p : Program} {l : Launch} {e : Env} {R : Room} {s : State} {m : MethodId} {args : Array Value} {below : List Frame} {meth : Method} {c : Code} {H : Heap} {locs : List Loc} {cells slots : Nat} {ls : Array Slot} {rest : List Value} {free : Addr → Prop} {Qc : Array Value → State → Outcome → State → Prop} {XC : String → State → State → Prop}
theorem tx_throwS {cc : ByteArray} {pc : Nat} (hexec : p.tables.exec = Jvm.exec) (hb : c.code = cc) (hl : l.stackTraces = false) {own cls text : String} {names : List String} {ik is ic mc ms sa ix : Nat} {rx : ByteArray} {A : Nat → Prop} (x0 : decode rx 0 = .ok (.aload_n 0, 1)) (x1 : decode rx 1 = .ok (.aload_n 1, 1)) (x2 : decode rx 2 = .ok (.invokespecial ix, 3)) (x5 : decode rx 5 = .ok (.return_, 1))
    (hown : s.vm.findClass own = some m.cls) (hcls : Bundle.fit cls = true) (hnames : ∀ n ∈ names, Bundle.fit n = true)
    (hk : (Cond.classLink own ik cls).before args s = true) (hini : (Cond.initialized cls).before args s = true) (hstr : vk_R own is text sa s) (hat : ∀ w ∈ tx_at own ic cls ix rx names, w.before args s = true)
    (hgood : ∀ w ∈ Cond.classLink own ik cls :: Cond.initialized cls :: tx_at own ic cls ix rx names, vx_ot w = true)
    (hU : vx_Zq Bundle.tN "UNASSIGNED_STACK" Bundle.steD A s s.heap) (hN : vx_Zq Bundle.tN "SUPPRESSED_SENTINEL" Bundle.listD A s s.heap) (hS : va_S A s.heap H locs) (hsize : ls.size = c.maxLocals)
    (d0 : decode cc pc = .ok (.new ik, 3)) (d3 : decode cc (pc + 3) = .ok (.dup, 1)) (d4 : decode cc (pc + 4) = .ok (.ldc is, 2)) (d6 : decode cc (pc + 6) = .ok (.invokespecial ic, 3)) (d9 : decode cc (pc + 9) = .ok (.athrow, 1))
    (hout : ∀ x ∈ c.exceptionTable.toList, covers x (pc + 9) = false)
    (hRframes : names.length + 3 < R.frames) (hRlocals : (rest.map fun v => v.category).sum + (13 * (names.length + 1) + 43) ≤ R.locals) (hRcells : cells + 1 ≤ R.cells) (hRslots : slots + 6 ≤ R.slots) (hlocks : meth.locks = false)
    (hx : ∀ t : State, s.WarmedH t.vm → H.size ≤ t.heap.size → (∀ q : Nat, q < H.size → t.heap[q]? = H[q]?) → XC cls s t)
    (hf : ∀ z ∈ locs, free z.base) (hc : cells + 1 ≤ mc) (hs : slots + 6 ≤ ms) :
    W p l e R s m args below meth c H locs cells slots (vx_MQ below Qc XC args s mc ms free) (F0 m pc ls rest) := by
  intro T hT X
  have htr : e.platform.stackTraces = false := (show e.platform.stackTraces = l.stackTraces by rw [X.admits.platform]).trans hl
  have Y := vx_rebase X (R' := { frames := R.frames, locals := R.locals, cells := 1, slots := 6 }) (Nat.le_refl _) (Nat.le_refl _) hRcells hRslots
  obtain ⟨s', hA⟩ : ∃ z, z = (T.setVm s.vm).setFrames (.invoking m args :: below) := ⟨_, rfl⟩
  rw [← hA] at Y
  have hvm : s'.vm = s.vm := by rw [hA]; rfl
  have hhp : s'.heap = H := by rw [hA]; exact hT
  have hW0 : s.WarmedH s'.vm := by rw [hvm]; exact State.WarmedH.refl s
  have hat' : ∀ w ∈ tx_at own ic cls ix rx names, w.before args s' = true := fun w hw => vx_ot_at hW0 hvm.symm (hgood w (List.mem_cons_of_mem _ (List.mem_cons_of_mem _ hw))) (hat w hw)
  have hk' : (Cond.classLink own ik cls).before args s' = true := vx_ot_at hW0 hvm.symm (hgood _ List.mem_cons_self) hk
  have hini' : (Cond.initialized cls).before args s' = true := vx_ot_at hW0 hvm.symm (hgood _ (List.mem_cons_of_mem _ List.mem_cons_self)) hini
  have hU' : vx_Zq Bundle.tN "UNASSIGNED_STACK" Bundle.steD A s' s'.heap := by rw [hhp]; exact vx_Zq.moved hW0.alike (hU.kept hS.2.1)
  have hN' : vx_Zq Bundle.tN "SUPPRESSED_SENTINEL" Bundle.listD A s' s'.heap := by rw [hhp]; exact vx_Zq.moved hW0.alike (hN.kept hS.2.1)
  have h : ∀ w ∈ Bundle.ownAtomsX own ic cls ix rx names, w.before args s' = true := vx_own hat' (vx_isRefq hU'.1) (vx_isRefq hN'.1) hU'.2.word hN'.2.word
  have hown' : s'.vm.findClass own = some m.cls := by rw [hvm]; exact hown
  have hins : (Cond.instantiable cls 6).before args s' = true := h _ (by simp [Bundle.ownAtomsX])
  obtain ⟨vm₁, cX, kX, hfX, hkX, -, -, X₁, st1⟩ := Y.newCold hexec (own := own) (C := cls) (index := ik) (n := 6) hown' hk' hins hini'
    (g := F0 m pc ls rest) rfl (by rw [hb]; exact d0) (Nat.le_refl _) (Nat.le_refl _)
  generalize hT1 : (T.setVm vm₁).pushCell { cls := cX, slots := kX.instanceTypes.map defaultValue, vm := .none } = T1 at X₁ st1
  have hcat : (Value.ref T.heap.size).category = 1 := rfl
  have hcellA : T1.heap[T.heap.size]? = some (freshCell cX kX) := by rw [← hT1]; exact State.heap_pushCell_size _ _
  have d3' : decode c.code (pc + 3) = .ok (.dup, 1) := by rw [hb]; exact d3
  have d4' : decode c.code (pc + 4) = .ok (.ldc is, 2) := by rw [hb]; exact d4
  have hstr' : vk_R own is text sa s' := vk_R.warm hW0 hstr
  obtain ⟨U, hsteps, hrun, hend, hW, hsame, ce, hce, hO, hO2⟩ := tx_ctor X₁ hexec htr (own := own) (cls := cls) (names := names) (ic := ic) x0 x1 x2 x5 hown' hcls hnames h (fun x hx => nomatch hx) hfX hkX hcellA (by rw [hhp, hT]; exact Nat.le_refl _) (msg := .ref sa) rfl
    (g := { method := m, pc := pc + 6, locals := ls, stack := .ref sa :: .ref T.heap.size :: .ref T.heap.size :: rest, locked := none }) rfl hsize rfl rfl (rest := rest) rfl
    (by rw [hb]; exact d6) (by rw [hb]; exact d9) hout hRframes (by simp only [List.map_cons, List.sum_cons, hcat]; omega) hlocks
  obtain ⟨f1, f2⟩ := vx_frame hsame
  rw [hhp] at f1 f2
  have hWs : s.WarmedH U.vm := State.WarmedH.trans hW0 hW
  have hcl : s.vm.findClass cls = some ce.cls := by
    have h9 := hO
    rw [hvm] at h9
    exact h9
  have hall : s.sameButNew ({ U with vm := s.vm } : State) locs mc ms := by
    subst hA
    obtain ⟨e1, e2⟩ := hsame
    rw [State.setFrames_setFrames] at e1
    have h2 : (T.setVm s.vm).sameButNew ({ U with vm := s.vm } : State) [] (0 + 1) (0 + 6) := ⟨e1, e2⟩
    have h3 := X.same.trans h2
    rw [List.append_nil] at h3
    exact h3.mono hc hs
  refine ⟨U, ?_, .threw T.heap.size, hrun, hend, Or.inr ⟨T.heap.size, rfl, cls, ce, locs, hx U hWs f1 (fun q hq => f2 q hq (fun z hz => nomatch hz)), hce, hO2, hcl, hWs, hall, hf⟩⟩
  refine st1 _ ?_
  show Steps p.tables e below (T1.setTop { method := m, pc := pc + 3, locals := ls, stack := .ref T.heap.size :: rest, locked := none }) _
  jvm_step X₁.here [X₁.here.top, hexec, d3', Value.category]
  exact X₁.ldcString hexec (own := own) (text := text) (index := is) (a := sa) hown' hstr'.1 hstr'.2
    (g := { method := m, pc := pc + 4, locals := ls, stack := .ref T.heap.size :: .ref T.heap.size :: rest, locked := none }) rfl d4' _ hsteps
end TXS
/-! throwing methods of the class: they return or throw NoSuchElementException; nothing changes -/
theorem CW.grow {A : Nat → Prop} {D : va_G} {ad aM aC aE : Nat → Nat} {cA : Nat → ClassId} {kk : Nat → Nat} {X : va_W} {σ : SC} {s : State} {H : Heap} {locs : List Loc} (hW : CW D ad cA kk A aM aC aE X σ s H locs) {t : State} (hz : H.size ≤ t.heap.size) (hk : ∀ q : Nat, q < H.size → t.heap[q]? = H[q]?) (hw : s.WarmedH t.vm) : CP D ad cA kk A aM aC aE X σ t ∧ va_F A s t := by
  obtain ⟨⟨lm, la, lc, lr, hP, hD, hL⟩, hE, hF, hS⟩ := hW
  have hS' : va_S A s.heap t.heap [] := ⟨Nat.le_trans hS.1 hz, fun q h1 h2 => by rw [hk q (Nat.lt_of_lt_of_le h1 hS.1)]; exact hS.2.1 q h1 h2, fun _ h => absurd h List.not_mem_nil⟩
  exact ⟨⟨⟨lm, la, lc, lr, hP.kept (fun k q hq => hk q.1 (vx_lt hP hq)), hD, hL⟩, hE.done hS' rfl hw, hF⟩, hS'.F rfl⟩
/-- where two statics of Throwable lie -/
def TL (A : Nat → Prop) (U : State) (H : Heap) : Prop := vx_L Bundle.tN "UNASSIGNED_STACK" Bundle.steD A U H ∧ vx_L Bundle.tN "SUPPRESSED_SENTINEL" Bundle.listD A U H
theorem TL.kept {A : Nat → Prop} {s t : State} {H : Heap} {locs : List Loc} (h : TL A s s.heap) (hS : va_S A s.heap H locs) (ht : t.heap = H) (hw : s.WarmedH t.vm) : TL A t t.heap := by
  subst ht
  exact ⟨vx_L.moved hw.alike (h.1.kept hS.2.1), vx_L.moved hw.alike (h.2.kept hS.2.1)⟩
theorem TL.same {A : Nat → Prop} {U : State} (h : TL A U U.heap) {g : JFrame} {mk : MethodId} {a : Array Value} : TL A (U.calling g mk a) (U.calling g mk a).heap := ⟨vx_L.moved (Vm.Alike.refl U.vm) h.1, vx_L.moved (Vm.Alike.refl U.vm) h.2⟩
def nse : String := "java/util/NoSuchElementException"
def nch : List String := ["java/lang/RuntimeException", "java/lang/Exception"]
abbrev nrx : ByteArray := prog_33_method_4_code
theorem tw_tbl : ∀ w ∈ (tx_at RX10 115 nse 13 nrx nch).filter goodWord, w ∈ lw_tbl := by decide +kernel
theorem tw_good : ∀ w ∈ (tx_at RX10 115 nse 13 nrx nch).filter goodWord, w ∈ wsL := fun w hw => List.mem_filter.mpr ⟨tw_tbl w hw, (List.mem_filter.mp hw).2⟩
theorem tw_bad : ∀ w ∈ (tx_at RX10 115 nse 13 nrx nch).filter (fun w => !goodWord w), w ∈ nwl := by decide +kernel
theorem tw_ot : ∀ w ∈ Cond.classLink RX10 111 nse :: Cond.initialized nse :: tx_at RX10 115 nse 13 nrx nch, vx_ot w = true := by decide +kernel
/-- a contract: answers o, or throws where o is none -/
def MtT (l : Launch) (y : MethodName) (b : ByteArray) (n : Nat) (rm : Room) (As : List Value) (P : State → Prop) (o : Option Int64) (P' : State → Prop) (A : Nat → Prop) : Prop := vx_Met l y (Cond.code y b n (some .long) :: wsL) rm (va_Pc As P) (va_Ql (fun x (_ : Unit) => o = some x) (fun _ t => P' t) A) (vx_X (fun (_ : Unit) => o = none) (fun E _ t => E = nse ∧ P' t) A) 1 6 A
theorem MtT.of {l : Launch} {y : MethodName} {b : ByteArray} {n : Nat} {rm : Room} {As : List Value} {P : State → Prop} {o : Option Int64} {P' : State → Prop} {A : Nat → Prop} {own : String} (ho : y.cls = own) (hy : plainName y.cls = true) (hAs : (lg_sl As).length ≤ n)
    (body : ∀ (p : Program) (e : Env) (s : State) (m : MethodId) (args : Array Value) (below : List Frame) (meth : Method) (c : Code) (ls : Array Slot), CallFix p m c b n s args wsL own → meth.sig.returnType = some .long → meth.locks = false → (∀ x ∈ c.exceptionTable.toList, False) → P s → lv_has ls n (lv_args 0 As) → W p l e rm s m args below meth c s.heap [] 0 0 (vx_MQ below (va_Ql (fun x (_ : Unit) => o = some x) (fun _ t => P' t) A) (vx_X (fun (_ : Unit) => o = none) (fun E _ t => E = nse ∧ P' t) A) args s 1 6 A) (F0 m 0 ls [])) : MtT l y b n rm As P o P' A := by
  subst ho
  refine vx_ofW (cc := b) (maxL := n) (ret := some .long) hy rfl ?_
  intro p e s m args below meth c s₁ B hml hno hv
  obtain ⟨rfl, hP⟩ := hv
  have hts := atoms_spec (ws := Cond.code y b n (some .long) :: wsL) B.pre
  rw [lg_entry_eq]
  exact body p e s m _ below meth c _ ⟨B.exec, B.bytes, hml, findClass_of_methodNamed B.named, fun w h => hts w (List.mem_cons_of_mem _ h)⟩ B.returns B.notSynchronized hno hP (lv_entry As hAs)
section TT
variable {p : Program} {l : Launch} {e : Env} {R : Room} {s : State} {m : MethodId} {args : Array Value} {below : List Frame} {meth : Method} {c : Code} {H : Heap} {locs : List Loc} {cc : ByteArray} {nL pc : Nat} {ls : Array Slot} {own : String} {A : Nat → Prop} {D : va_G} {ad aM aC aE : Nat → Nat} {cA : Nat → ClassId} {kk : Nat → Nat} {X : va_W} {σ : SC}
theorem xt_l {v : Int64} {o : Option Int64} {XC : String → State → State → Prop} (S : CallFix p m c cc nL s args wsL own) (hr : meth.sig.returnType = some .long) (hlk : meth.locks = false) (hW : CW D ad cA kk A aM aC aE X σ s H locs) (hv : o = some v) (hdg : decode cc pc = .ok (.lreturn, 1)) : W p l e R s m args below meth c H locs 0 0 (vx_MQ below (va_Ql (fun x (_ : Unit) => o = some x) (fun _ t => CP D ad cA kk A aM aC aE X σ t) A) XC args s 1 6 A) (F0 m pc ls [.long v]) :=
  W.widen (k := 1) (n := 6) (by omega) (by omega) (vx_ret (W.lret S.1 S.2.1 hr (fun t ht hw => ⟨⟨v, (), rfl, hv, hW.done ht hw⟩, hW.2.2.2.F ht⟩) hW.2.2.2.2.2 hdg hlk))
theorem xt_throw (hst : l.stackTraces = false) (S : CallFix p m c cc nL s args wsL RX10) (hlk : meth.locks = false) (hno : ∀ x ∈ c.exceptionTable.toList, False) (hT : TL A s s.heap) (hW : CW D ad cA kk A aM aC aE X σ s H locs) (hsz : ls.size = nL) {i is : Nat} {text : String} (hi : ktx[i]? = some ("BookClub", is, text)) (hR : 6 ≤ R.frames ∧ 82 ≤ R.locals ∧ 1 ≤ R.cells ∧ 6 ≤ R.slots)
    (d0 : decode cc pc = .ok (.new 111, 3)) (d3 : decode cc (pc + 3) = .ok (.dup, 1)) (d4 : decode cc (pc + 4) = .ok (.ldc is, 2)) (d6 : decode cc (pc + 6) = .ok (.invokespecial 115, 3)) (d9 : decode cc (pc + 9) = .ok (.athrow, 1)) :
    W p l e R s m args below meth c H locs 0 0 (vx_MQ below (va_Ql (fun x (_ : Unit) => (none : Option Int64) = some x) (fun _ t => CP D ad cA kk A aM aC aE X σ t) A) (vx_X (fun (_ : Unit) => (none : Option Int64) = none) (fun E _ t => E = nse ∧ CP D ad cA kk A aM aC aE X σ t) A) args s 1 6 A) (F0 m pc ls []) :=
  tx_throwS (own := RX10) (cls := nse) (names := nch) (ik := 111) (is := is) (ic := 115) (ix := 13) (rx := nrx) (text := text) (sa := kk i) (A := A) (rest := []) S.1 S.2.1 hst (by decide +kernel) (by decide +kernel) (by decide +kernel) (by decide +kernel) S.2.2.2.1 (by decide +kernel) (by decide +kernel) (S.2.2.2.2 _ m_660) (S.2.2.2.2 _ m_661) (hW.2.1.2.1.2.1 i _ hi)
    (vx_hat (fun w hw => S.2.2.2.2 w (tw_good w hw)) tw_bad (fun w hw => hW.2.1.2.2.1.use hw)) tw_ot ⟨hW.2.1.2.1.2.2.2.2.2.2.2.2.2.2.2.1, hT.1⟩ ⟨hW.2.1.2.1.2.2.2.2.2.2.2.2.2.2.2.2, hT.2⟩ hW.2.2.2 (hsz.trans S.2.2.1.symm) d0 d3 d4 d6 d9 (fun x hx => (hno x hx).elim) hR.1 (by show 0 + (13 * (2 + 1) + 43) ≤ R.locals; omega) (by omega) (by omega) hlk
    (fun t hw hz hk => ⟨(), rfl, ⟨rfl, (hW.grow hz hk hw).1⟩, (hW.grow hz hk hw).2⟩) hW.2.2.2.2.2 (by omega) (by omega)
end TT
def fC_B_member (σ : SC) (a1 : Int32) (a2 : Int32) : Option (Option Int64) :=
  Option.bind (fC_Cl_findMember σ a1) (fun u1 =>
  onull u1
  (some (none))
  (fun iu1 =>
  if a2 = (0 : Int32) then
  if xn σ 0 ≤ iu1 then none else
  some (some (((xm σ 1 iu1)).toInt64))
  else if a2 = (1 : Int32) then
  if xn σ 0 ≤ iu1 then none else
  some (some (((xm σ 2 iu1)).toInt64))
  else if a2 = (2 : Int32) then
  if xn σ 0 ≤ iu1 then none else
  some (some (((xm σ 3 iu1)).toInt64))
  else if a2 = (3 : Int32) then
  if xn σ 0 ≤ iu1 then none else
  some (some (((xm σ 4 iu1)).toInt64))
  else if a2 = (4 : Int32) then
  if xn σ 0 ≤ iu1 then none else
  some (some (((xm σ 5 iu1)).toInt64))
  else if a2 = (5 : Int32) then
  if xn σ 0 ≤ iu1 then none else
  some (some ((xb σ iu1)))
  else if a2 = (6 : Int32) then
  if xn σ 0 ≤ iu1 then none else
  some (some (((xm σ 7 iu1)).toInt64))
  else if a2 = (7 : Int32) then
  if xn σ 0 ≤ iu1 then none else
  if (xm σ 8 iu1) = 0 then
  some (some ((0 : Int64)))
  else
  some (some ((1 : Int64)))
  else if a2 = (8 : Int32) then
  if xn σ 0 ≤ iu1 then none else
  if (xm σ 9 iu1) = 0 then
  some (some ((0 : Int64)))
  else
  some (some ((1 : Int64)))
  else 
  some (none)))
set_option maxRecDepth 100000 in
set_option maxHeartbeats 4000000 in
theorem cC_B_member (l : Launch) (hst : l.stackTraces = false) (D : va_G) (ad : Nat → Nat) (cA : Nat → ClassId) (kk : Nat → Nat) (A : Nat → Prop) (aM aC aE : Nat → Nat) (X : va_W) {σ : SC} {a1 : Int32} {a2 : Int32} {o : Option Int64} (hF : fC_B_member σ a1 a2 = some o) : MtT l yX10_member cX10_member 4 { frames := 6, cells := 1, slots := 6, locals := 85 } [.ref (ad 0), .int a1, .int a2] (fun U => CP D ad cA kk A aM aC aE X σ U ∧ TL A U U.heap) o (CP D ad cA kk A aM aC aE X σ) A := by
  refine MtT.of (own := RX10) rfl (by decide +kernel) (Nat.le_of_ble_eq_true rfl) ?_
  intro p e s m args below meth c ls S hr hlk hno hP hl
  have hT := hP.2
  have hW := CW.start hP.1
  have hl : lv_has ls 4 [(0, .ref (ad 0)), (1, .int a1), (2, .int a2)] := hl
  rw [fC_B_member] at hF
  refine lv_aload_n S.1 S.2.1 dX10_member_0 rfl (lv_at hl 0 rfl) ?_
  refine xg_X10_37 S hW dX10_member_1 ?_
  refine lv_iload_n S.1 S.2.1 dX10_member_4 rfl (lv_at hl 1 rfl) ?_
  obtain ⟨u1, hu1, hF⟩ := bd_of hF
  refine xc_o (k := 1) (As := [.int a1]) (rest := []) (cC_Cl_findMember l D ad cA kk A aM aC aE X hu1) (xr_RX2 hW) S hW (gd_V m_574 m_575 m_576 m_27 m_577) (by decide +kernel) ⟨Nat.le_of_ble_eq_true rfl, Nat.le_of_ble_eq_true rfl⟩ rfl hl.1 rfl (Nat.le_of_ble_eq_true rfl) ⟨Nat.le_of_ble_eq_true rfl, Nat.le_of_ble_eq_true rfl⟩ dX10_member_5 (fun H locs hW => ?_)
  rcases on_of hF with ⟨he, hF⟩ | ⟨iu1, he, hF⟩
  · refine W.eq (g2 := F0 m 8 ls (.null :: [])) (by rw [he]; rfl) ?_
    refine lv_astore_nN (lv' := [(3, .null), (0, .ref (ad 0)), (1, .int a1), (2, .int a2)]) S.1 S.2.1 dX10_member_8 rfl hl (by decide) rfl (fun ls hl => ?_)
    refine lv_aload_nN S.1 S.2.1 dX10_member_9 rfl (lv_at hl 0 rfl) ?_
    refine lv_ifnonnullN S.1 S.2.1 dX10_member_10 ?_
    obtain rfl := Option.some.inj hF
    exact xt_throw hst S hlk hno hT hW hl.1 (i := 9) rfl ⟨Nat.le_of_ble_eq_true rfl, Nat.le_of_ble_eq_true rfl, Nat.le_refl _, Nat.le_refl _⟩ dX10_member_13 dX10_member_16 dX10_member_17 dX10_member_19 dX10_member_22
  · refine W.eq (g2 := F0 m 8 ls (.ref (aM iu1) :: [])) (by rw [he]; rfl) ?_
    refine lv_astore_n (lv' := [(3, .ref (aM iu1)), (0, .ref (ad 0)), (1, .int a1), (2, .int a2)]) S.1 S.2.1 dX10_member_8 rfl hl (by decide) rfl (fun ls hl => ?_)
    refine lv_aload_n S.1 S.2.1 dX10_member_9 rfl (lv_at hl 0 rfl) ?_
    refine lv_ifnonnull (tgt := 23) S.1 S.2.1 dX10_member_10 (by decide) ?_
    refine lv_iload_n S.1 S.2.1 dX10_member_23 rfl (lv_at hl 3 rfl) ?_
    rcases Classical.em (a2 = (0 : Int32)) with hc0 | hc0
    · have hF := it_pos hc0 hF
      refine lv_tableIn (off := 52) (tgt := 76) S.1 S.2.1 dX10_member_24 (by rw [hc0]; decide) (by rw [hc0]; decide) (by rw [hc0]; decide) (by decide) ?_
      refine lv_aload_n S.1 S.2.1 dX10_member_76 rfl (lv_at hl 0 rfl) ?_
      obtain ⟨h2, hF⟩ := gd_of hF
      refine xg_X10_118 S hW (Nat.lt_of_not_le h2) dX10_member_77 ?_
      refine lv_i2l (v := ((xm σ 1 iu1)).toInt64) S.1 S.2.1 dX10_member_80 rfl ?_
      obtain rfl := Option.some.inj hF
      exact xt_l S hr hlk hW rfl dX10_member_81
    · have hF := it_neg hc0 hF
      rcases Classical.em (a2 = (1 : Int32)) with hc1 | hc1
      · have hF := it_pos hc1 hF
        refine lv_tableIn (off := 58) (tgt := 82) S.1 S.2.1 dX10_member_24 (by rw [hc1]; decide) (by rw [hc1]; decide) (by rw [hc1]; decide) (by decide) ?_
        refine lv_aload_n S.1 S.2.1 dX10_member_82 rfl (lv_at hl 0 rfl) ?_
        obtain ⟨h3, hF⟩ := gd_of hF
        refine xg_X10_123 S hW (Nat.lt_of_not_le h3) dX10_member_83 ?_
        refine lv_i2l (v := ((xm σ 2 iu1)).toInt64) S.1 S.2.1 dX10_member_86 rfl ?_
        obtain rfl := Option.some.inj hF
        exact xt_l S hr hlk hW rfl dX10_member_87
      · have hF := it_neg hc1 hF
        rcases Classical.em (a2 = (2 : Int32)) with hc2 | hc2
        · have hF := it_pos hc2 hF
          refine lv_tableIn (off := 64) (tgt := 88) S.1 S.2.1 dX10_member_24 (by rw [hc2]; decide) (by rw [hc2]; decide) (by rw [hc2]; decide) (by decide) ?_
          refine lv_aload_n S.1 S.2.1 dX10_member_88 rfl (lv_at hl 0 rfl) ?_
          obtain ⟨h4, hF⟩ := gd_of hF
          refine xg_X10_126 S hW (Nat.lt_of_not_le h4) dX10_member_89 ?_
          refine lv_i2l (v := ((xm σ 3 iu1)).toInt64) S.1 S.2.1 dX10_member_92 rfl ?_
          obtain rfl := Option.some.inj hF
          exact xt_l S hr hlk hW rfl dX10_member_93
        · have hF := it_neg hc2 hF
          rcases Classical.em (a2 = (3 : Int32)) with hc3 | hc3
          · have hF := it_pos hc3 hF
            refine lv_tableIn (off := 70) (tgt := 94) S.1 S.2.1 dX10_member_24 (by rw [hc3]; decide) (by rw [hc3]; decide) (by rw [hc3]; decide) (by decide) ?_
            refine lv_aload_n S.1 S.2.1 dX10_member_94 rfl (lv_at hl 0 rfl) ?_
            obtain ⟨h5, hF⟩ := gd_of hF
            refine xg_X10_129 S hW (Nat.lt_of_not_le h5) dX10_member_95 ?_
            refine lv_i2l (v := ((xm σ 4 iu1)).toInt64) S.1 S.2.1 dX10_member_98 rfl ?_
            obtain rfl := Option.some.inj hF
            exact xt_l S hr hlk hW rfl dX10_member_99
          · have hF := it_neg hc3 hF
            rcases Classical.em (a2 = (4 : Int32)) with hc4 | hc4
            · have hF := it_pos hc4 hF
              refine lv_tableIn (off := 76) (tgt := 100) S.1 S.2.1 dX10_member_24 (by rw [hc4]; decide) (by rw [hc4]; decide) (by rw [hc4]; decide) (by decide) ?_
              refine lv_aload_n S.1 S.2.1 dX10_member_100 rfl (lv_at hl 0 rfl) ?_
              obtain ⟨h6, hF⟩ := gd_of hF
              refine xg_X10_132 S hW (Nat.lt_of_not_le h6) dX10_member_101 ?_
              refine lv_i2l (v := ((xm σ 5 iu1)).toInt64) S.1 S.2.1 dX10_member_104 rfl ?_
              obtain rfl := Option.some.inj hF
              exact xt_l S hr hlk hW rfl dX10_member_105
            · have hF := it_neg hc4 hF
              rcases Classical.em (a2 = (5 : Int32)) with hc5 | hc5
              · have hF := it_pos hc5 hF
                refine lv_tableIn (off := 82) (tgt := 106) S.1 S.2.1 dX10_member_24 (by rw [hc5]; decide) (by rw [hc5]; decide) (by rw [hc5]; decide) (by decide) ?_
                refine lv_aload_n S.1 S.2.1 dX10_member_106 rfl (lv_at hl 0 rfl) ?_
                obtain ⟨h7, hF⟩ := gd_of hF
                refine xg_X10_135 S hW (Nat.lt_of_not_le h7) dX10_member_107 ?_
                obtain rfl := Option.some.inj hF
                exact xt_l S hr hlk hW rfl dX10_member_110
              · have hF := it_neg hc5 hF
                rcases Classical.em (a2 = (6 : Int32)) with hc6 | hc6
                · have hF := it_pos hc6 hF
                  refine lv_tableIn (off := 87) (tgt := 111) S.1 S.2.1 dX10_member_24 (by rw [hc6]; decide) (by rw [hc6]; decide) (by rw [hc6]; decide) (by decide) ?_
                  refine lv_aload_n S.1 S.2.1 dX10_member_111 rfl (lv_at hl 0 rfl) ?_
                  obtain ⟨h8, hF⟩ := gd_of hF
                  refine xg_X10_139 S hW (Nat.lt_of_not_le h8) dX10_member_112 ?_
                  refine lv_i2l (v := ((xm σ 7 iu1)).toInt64) S.1 S.2.1 dX10_member_115 rfl ?_
                  obtain rfl := Option.some.inj hF
                  exact xt_l S hr hlk hW rfl dX10_member_116
                · have hF := it_neg hc6 hF
                  rcases Classical.em (a2 = (7 : Int32)) with hc7 | hc7
                  · have hF := it_pos hc7 hF
                    refine lv_tableIn (off := 93) (tgt := 117) S.1 S.2.1 dX10_member_24 (by rw [hc7]; decide) (by rw [hc7]; decide) (by rw [hc7]; decide) (by decide) ?_
                    refine lv_aload_n S.1 S.2.1 dX10_member_117 rfl (lv_at hl 0 rfl) ?_
                    obtain ⟨h9, hF⟩ := gd_of hF
                    refine xg_X10_142 S hW (Nat.lt_of_not_le h9) dX10_member_118 ?_
                    refine lv_if_eq (tgt := 128) S.1 S.2.1 dX10_member_121 (by decide) (fun hc => ?_) (fun hc => ?_)
                    · have hF := it_pos hc hF
                      refine lv_lconst (v := (0 : Int64)) S.1 S.2.1 dX10_member_128 (by decide) ?_
                      obtain rfl := Option.some.inj hF
                      exact xt_l S hr hlk hW rfl dX10_member_129
                    · have hF := it_neg hc hF
                      refine lv_lconst (v := (1 : Int64)) S.1 S.2.1 dX10_member_124 (by decide) ?_
                      refine lv_goto (tgt := 129) S.1 S.2.1 dX10_member_125 (by decide) ?_
                      obtain rfl := Option.some.inj hF
                      exact xt_l S hr hlk hW rfl dX10_member_129
                  · have hF := it_neg hc7 hF
                    rcases Classical.em (a2 = (8 : Int32)) with hc8 | hc8
                    · have hF := it_pos hc8 hF
                      refine lv_tableIn (off := 106) (tgt := 130) S.1 S.2.1 dX10_member_24 (by rw [hc8]; decide) (by rw [hc8]; decide) (by rw [hc8]; decide) (by decide) ?_
                      refine lv_aload_n S.1 S.2.1 dX10_member_130 rfl (lv_at hl 0 rfl) ?_
                      obtain ⟨h10, hF⟩ := gd_of hF
                      refine xg_X10_146 S hW (Nat.lt_of_not_le h10) dX10_member_131 ?_
                      refine lv_if_eq (tgt := 141) S.1 S.2.1 dX10_member_134 (by decide) (fun hc => ?_) (fun hc => ?_)
                      · have hF := it_pos hc hF
                        refine lv_lconst (v := (0 : Int64)) S.1 S.2.1 dX10_member_141 (by decide) ?_
                        obtain rfl := Option.some.inj hF
                        exact xt_l S hr hlk hW rfl dX10_member_142
                      · have hF := it_neg hc hF
                        refine lv_lconst (v := (1 : Int64)) S.1 S.2.1 dX10_member_137 (by decide) ?_
                        refine lv_goto (tgt := 142) S.1 S.2.1 dX10_member_138 (by decide) ?_
                        obtain rfl := Option.some.inj hF
                        exact xt_l S hr hlk hW rfl dX10_member_142
                    · have hF := it_neg hc8 hF
                      have n0 := sw_ne hc0
                      have n1 := sw_ne hc1
                      have n2 := sw_ne hc2
                      have n3 := sw_ne hc3
                      have n4 := sw_ne hc4
                      have n5 := sw_ne hc5
                      have n6 := sw_ne hc6
                      have n7 := sw_ne hc7
                      have n8 := sw_ne hc8
                      refine lv_tableOut (tgt := 143) S.1 S.2.1 dX10_member_24 (by simp only [tI_0, tI_1, tI_2, tI_3, tI_4, tI_5, tI_6, tI_7, tI_8] at n0 n1 n2 n3 n4 n5 n6 n7 n8; omega) (by decide) ?_
                      obtain rfl := Option.some.inj hF
                      exact xt_throw hst S hlk hno hT hW hl.1 (i := 10) rfl ⟨Nat.le_of_ble_eq_true rfl, Nat.le_of_ble_eq_true rfl, Nat.le_refl _, Nat.le_refl _⟩ dX10_member_143 dX10_member_146 dX10_member_147 dX10_member_149 dX10_member_152
def fC_B_entry (σ : SC) (a1 : Int32) (a2 : Int32) : Option (Option Int64) :=
  Option.bind (fC_Le_find σ a1) (fun u1 =>
  onull u1
  (some (none))
  (fun iu1 =>
  if a2 = (0 : Int32) then
  if xn σ 2 ≤ iu1 then none else
  if xn σ 0 ≤ (xo σ iu1) then none else
  some (some (((xm σ 0 ((xo σ iu1)))).toInt64))
  else if a2 = (1 : Int32) then
  if xn σ 2 ≤ iu1 then none else
  some (some (((xe σ 1 iu1)).toInt64))
  else if a2 = (2 : Int32) then
  if xn σ 2 ≤ iu1 then none else
  some (some (((xe σ 2 iu1)).toInt64))
  else if a2 = (3 : Int32) then
  if xn σ 2 ≤ iu1 then none else
  some (some ((xa σ iu1)))
  else if a2 = (4 : Int32) then
  if xn σ 2 ≤ iu1 then none else
  some (some (((xe σ 4 iu1)).toInt64))
  else 
  some (none)))
set_option maxRecDepth 100000 in
set_option maxHeartbeats 4000000 in
theorem cC_B_entry (l : Launch) (hst : l.stackTraces = false) (D : va_G) (ad : Nat → Nat) (cA : Nat → ClassId) (kk : Nat → Nat) (A : Nat → Prop) (aM aC aE : Nat → Nat) (X : va_W) {σ : SC} {a1 : Int32} {a2 : Int32} {o : Option Int64} (hF : fC_B_entry σ a1 a2 = some o) : MtT l yX10_entry cX10_entry 4 { frames := 6, cells := 1, slots := 6, locals := 85 } [.ref (ad 0), .int a1, .int a2] (fun U => CP D ad cA kk A aM aC aE X σ U ∧ TL A U U.heap) o (CP D ad cA kk A aM aC aE X σ) A := by
  refine MtT.of (own := RX10) rfl (by decide +kernel) (Nat.le_of_ble_eq_true rfl) ?_
  intro p e s m args below meth c ls S hr hlk hno hP hl
  have hT := hP.2
  have hW := CW.start hP.1
  have hl : lv_has ls 4 [(0, .ref (ad 0)), (1, .int a1), (2, .int a2)] := hl
  rw [fC_B_entry] at hF
  refine lv_aload_n S.1 S.2.1 dX10_entry_0 rfl (lv_at hl 0 rfl) ?_
  refine xg_X10_37 S hW dX10_entry_1 ?_
  refine xg_X10_210 S hW dX10_entry_4 ?_
  refine lv_iload_n S.1 S.2.1 dX10_entry_7 rfl (lv_at hl 1 rfl) ?_
  obtain ⟨u1, hu1, hF⟩ := bd_of hF
  refine xc_o (k := 1) (As := [.int a1]) (rest := []) (cC_Le_find l D ad cA kk A aM aC aE X hu1) (xr_RX5 hW) S hW (gd_V m_830 m_831 m_832 m_77 m_833) (by decide +kernel) ⟨Nat.le_of_ble_eq_true rfl, Nat.le_of_ble_eq_true rfl⟩ rfl hl.1 rfl (Nat.le_of_ble_eq_true rfl) ⟨Nat.le_of_ble_eq_true rfl, Nat.le_of_ble_eq_true rfl⟩ dX10_entry_8 (fun H locs hW => ?_)
  rcases on_of hF with ⟨he, hF⟩ | ⟨iu1, he, hF⟩
  · refine W.eq (g2 := F0 m 11 ls (.null :: [])) (by rw [he]; rfl) ?_
    refine lv_astore_nN (lv' := [(3, .null), (0, .ref (ad 0)), (1, .int a1), (2, .int a2)]) S.1 S.2.1 dX10_entry_11 rfl hl (by decide) rfl (fun ls hl => ?_)
    refine lv_aload_nN S.1 S.2.1 dX10_entry_12 rfl (lv_at hl 0 rfl) ?_
    refine lv_ifnonnullN S.1 S.2.1 dX10_entry_13 ?_
    obtain rfl := Option.some.inj hF
    exact xt_throw hst S hlk hno hT hW hl.1 (i := 11) rfl ⟨Nat.le_of_ble_eq_true rfl, Nat.le_of_ble_eq_true rfl, Nat.le_refl _, Nat.le_refl _⟩ dX10_entry_16 dX10_entry_19 dX10_entry_20 dX10_entry_22 dX10_entry_25
  · refine W.eq (g2 := F0 m 11 ls (.ref (aE iu1) :: [])) (by rw [he]; rfl) ?_
    refine lv_astore_n (lv' := [(3, .ref (aE iu1)), (0, .ref (ad 0)), (1, .int a1), (2, .int a2)]) S.1 S.2.1 dX10_entry_11 rfl hl (by decide) rfl (fun ls hl => ?_)
    refine lv_aload_n S.1 S.2.1 dX10_entry_12 rfl (lv_at hl 0 rfl) ?_
    refine lv_ifnonnull (tgt := 26) S.1 S.2.1 dX10_entry_13 (by decide) ?_
    refine lv_iload_n S.1 S.2.1 dX10_entry_26 rfl (lv_at hl 3 rfl) ?_
    rcases Classical.em (a2 = (0 : Int32)) with hc0 | hc0
    · have hF := it_pos hc0 hF
      refine lv_tableIn (off := 33) (tgt := 60) S.1 S.2.1 dX10_entry_27 (by rw [hc0]; decide) (by rw [hc0]; decide) (by rw [hc0]; decide) (by decide) ?_
      refine lv_aload_n S.1 S.2.1 dX10_entry_60 rfl (lv_at hl 0 rfl) ?_
      obtain ⟨h2, hF⟩ := gd_of hF
      refine xg_X10_226 S hW (Nat.lt_of_not_le h2) dX10_entry_61 ?_
      obtain ⟨h3, hF⟩ := gd_of hF
      refine xg_X10_232 S hW (Nat.lt_of_not_le h3) dX10_entry_64 ?_
      refine lv_i2l (v := ((xm σ 0 ((xo σ iu1)))).toInt64) S.1 S.2.1 dX10_entry_67 rfl ?_
      obtain rfl := Option.some.inj hF
      exact xt_l S hr hlk hW rfl dX10_entry_68
    · have hF := it_neg hc0 hF
      rcases Classical.em (a2 = (1 : Int32)) with hc1 | hc1
      · have hF := it_pos hc1 hF
        refine lv_tableIn (off := 42) (tgt := 69) S.1 S.2.1 dX10_entry_27 (by rw [hc1]; decide) (by rw [hc1]; decide) (by rw [hc1]; decide) (by decide) ?_
        refine lv_aload_n S.1 S.2.1 dX10_entry_69 rfl (lv_at hl 0 rfl) ?_
        obtain ⟨h4, hF⟩ := gd_of hF
        refine xg_X10_235 S hW (Nat.lt_of_not_le h4) dX10_entry_70 ?_
        refine lv_i2l (v := ((xe σ 1 iu1)).toInt64) S.1 S.2.1 dX10_entry_73 rfl ?_
        obtain rfl := Option.some.inj hF
        exact xt_l S hr hlk hW rfl dX10_entry_74
      · have hF := it_neg hc1 hF
        rcases Classical.em (a2 = (2 : Int32)) with hc2 | hc2
        · have hF := it_pos hc2 hF
          refine lv_tableIn (off := 48) (tgt := 75) S.1 S.2.1 dX10_entry_27 (by rw [hc2]; decide) (by rw [hc2]; decide) (by rw [hc2]; decide) (by decide) ?_
          refine lv_aload_n S.1 S.2.1 dX10_entry_75 rfl (lv_at hl 0 rfl) ?_
          obtain ⟨h5, hF⟩ := gd_of hF
          refine xg_X10_236 S hW (Nat.lt_of_not_le h5) dX10_entry_76 ?_
          refine lv_i2l (v := ((xe σ 2 iu1)).toInt64) S.1 S.2.1 dX10_entry_79 rfl ?_
          obtain rfl := Option.some.inj hF
          exact xt_l S hr hlk hW rfl dX10_entry_80
        · have hF := it_neg hc2 hF
          rcases Classical.em (a2 = (3 : Int32)) with hc3 | hc3
          · have hF := it_pos hc3 hF
            refine lv_tableIn (off := 54) (tgt := 81) S.1 S.2.1 dX10_entry_27 (by rw [hc3]; decide) (by rw [hc3]; decide) (by rw [hc3]; decide) (by decide) ?_
            refine lv_aload_n S.1 S.2.1 dX10_entry_81 rfl (lv_at hl 0 rfl) ?_
            obtain ⟨h6, hF⟩ := gd_of hF
            refine xg_X10_239 S hW (Nat.lt_of_not_le h6) dX10_entry_82 ?_
            obtain rfl := Option.some.inj hF
            exact xt_l S hr hlk hW rfl dX10_entry_85
          · have hF := it_neg hc3 hF
            rcases Classical.em (a2 = (4 : Int32)) with hc4 | hc4
            · have hF := it_pos hc4 hF
              refine lv_tableIn (off := 59) (tgt := 86) S.1 S.2.1 dX10_entry_27 (by rw [hc4]; decide) (by rw [hc4]; decide) (by rw [hc4]; decide) (by decide) ?_
              refine lv_aload_n S.1 S.2.1 dX10_entry_86 rfl (lv_at hl 0 rfl) ?_
              obtain ⟨h7, hF⟩ := gd_of hF
              refine xg_X10_242 S hW (Nat.lt_of_not_le h7) dX10_entry_87 ?_
              refine lv_i2l (v := ((xe σ 4 iu1)).toInt64) S.1 S.2.1 dX10_entry_90 rfl ?_
              obtain rfl := Option.some.inj hF
              exact xt_l S hr hlk hW rfl dX10_entry_91
            · have hF := it_neg hc4 hF
              have n0 := sw_ne hc0
              have n1 := sw_ne hc1
              have n2 := sw_ne hc2
              have n3 := sw_ne hc3
              have n4 := sw_ne hc4
              refine lv_tableOut (tgt := 92) S.1 S.2.1 dX10_entry_27 (by simp only [tI_0, tI_1, tI_2, tI_3, tI_4] at n0 n1 n2 n3 n4; omega) (by decide) ?_
              obtain rfl := Option.some.inj hF
              exact xt_throw hst S hlk hno hT hW hl.1 (i := 12) rfl ⟨Nat.le_of_ble_eq_true rfl, Nat.le_of_ble_eq_true rfl, Nat.le_refl _, Nat.le_refl _⟩ dX10_entry_92 dX10_entry_95 dX10_entry_96 dX10_entry_98 dX10_entry_101
def fC_B_balance (σ : SC) (a1 : Int32) (a2 : Int32) (a3 : Int32) : Option (Option Int64) :=
  Option.bind (fC_Cl_findMember σ a1) (fun u1 =>
  onull u1
  (some (none))
  (fun iu1 =>
  Option.bind (fC_isWithin a2 ((0 : Int32)) ((60 : Int32))) (fun u2 =>
  if u2 = 0 then
  some (none)
  else
  Option.bind (fC_isWithin a3 ((0 : Int32)) ((60 : Int32))) (fun u3 =>
  if u3 = 0 then
  some (none)
  else
  Option.bind (fC_Le_sumKnown σ (some iu1) a2 a3) (fun u4 =>
  some (some u4))))))
set_option maxRecDepth 100000 in
set_option maxHeartbeats 4000000 in
theorem cC_B_balance (l : Launch) (hst : l.stackTraces = false) (D : va_G) (ad : Nat → Nat) (cA : Nat → ClassId) (kk : Nat → Nat) (A : Nat → Prop) (aM aC aE : Nat → Nat) (X : va_W) {σ : SC} {a1 : Int32} {a2 : Int32} {a3 : Int32} {o : Option Int64} (hF : fC_B_balance σ a1 a2 a3 = some o) : MtT l yX10_balance cX10_balance 5 { frames := 6, cells := 1, slots := 6, locals := 91 } [.ref (ad 0), .int a1, .int a2, .int a3] (fun U => CP D ad cA kk A aM aC aE X σ U ∧ TL A U U.heap) o (CP D ad cA kk A aM aC aE X σ) A := by
  refine MtT.of (own := RX10) rfl (by decide +kernel) (Nat.le_of_ble_eq_true rfl) ?_
  intro p e s m args below meth c ls S hr hlk hno hP hl
  have hT := hP.2
  have hW := CW.start hP.1
  have hl : lv_has ls 5 [(0, .ref (ad 0)), (1, .int a1), (2, .int a2), (3, .int a3)] := hl
  rw [fC_B_balance] at hF
  refine lv_aload_n S.1 S.2.1 dX10_balance_0 rfl (lv_at hl 0 rfl) ?_
  refine xg_X10_37 S hW dX10_balance_1 ?_
  refine lv_iload_n S.1 S.2.1 dX10_balance_4 rfl (lv_at hl 1 rfl) ?_
  obtain ⟨u1, hu1, hF⟩ := bd_of hF
  refine xc_o (k := 1) (As := [.int a1]) (rest := []) (cC_Cl_findMember l D ad cA kk A aM aC aE X hu1) (xr_RX2 hW) S hW (gd_V m_574 m_575 m_576 m_27 m_577) (by decide +kernel) ⟨Nat.le_of_ble_eq_true rfl, Nat.le_of_ble_eq_true rfl⟩ rfl hl.1 rfl (Nat.le_of_ble_eq_true rfl) ⟨Nat.le_of_ble_eq_true rfl, Nat.le_of_ble_eq_true rfl⟩ dX10_balance_5 (fun H locs hW => ?_)
  rcases on_of hF with ⟨he, hF⟩ | ⟨iu1, he, hF⟩
  · refine W.eq (g2 := F0 m 8 ls (.null :: [])) (by rw [he]; rfl) ?_
    refine lv_astoreN (lv' := [(4, .null), (0, .ref (ad 0)), (1, .int a1), (2, .int a2), (3, .int a3)]) S.1 S.2.1 dX10_balance_8 hl (by decide) rfl (fun ls hl => ?_)
    refine lv_aloadN S.1 S.2.1 dX10_balance_10 (lv_at hl 0 rfl) ?_
    refine lv_ifnonnullN S.1 S.2.1 dX10_balance_12 ?_
    obtain rfl := Option.some.inj hF
    exact xt_throw hst S hlk hno hT hW hl.1 (i := 9) rfl ⟨Nat.le_of_ble_eq_true rfl, Nat.le_of_ble_eq_true rfl, Nat.le_refl _, Nat.le_refl _⟩ dX10_balance_15 dX10_balance_18 dX10_balance_19 dX10_balance_21 dX10_balance_24
  · refine W.eq (g2 := F0 m 8 ls (.ref (aM iu1) :: [])) (by rw [he]; rfl) ?_
    refine lv_astore (lv' := [(4, .ref (aM iu1)), (0, .ref (ad 0)), (1, .int a1), (2, .int a2), (3, .int a3)]) S.1 S.2.1 dX10_balance_8 hl (by decide) rfl (fun ls hl => ?_)
    refine lv_aload S.1 S.2.1 dX10_balance_10 (lv_at hl 0 rfl) ?_
    refine lv_ifnonnull (tgt := 25) S.1 S.2.1 dX10_balance_12 (by decide) ?_
    refine lv_iload_n S.1 S.2.1 dX10_balance_25 rfl (lv_at hl 3 rfl) ?_
    refine lv_iconst (v := (0 : Int32)) S.1 S.2.1 dX10_balance_26 (by decide) ?_
    refine lv_bipush (v := (60 : Int32)) S.1 S.2.1 dX10_balance_27 (by decide) ?_
    obtain ⟨u2, hu2, hF⟩ := bd_of hF
    refine sc_i (k := 3) (As := [.int a2, .int ((0 : Int32)), .int ((60 : Int32))]) (rest := []) (cC_isWithin l hu2) S (gd_S m_473 m_242 m_2 m_243) rfl rfl (by decide +kernel) ⟨Nat.le_of_ble_eq_true rfl, Nat.le_of_ble_eq_true rfl⟩ rfl hl.1 rfl (Nat.le_of_ble_eq_true rfl) ⟨Nat.le_of_ble_eq_true rfl, Nat.le_of_ble_eq_true rfl⟩ dX10_balance_29 ?_
    refine lv_if_eq (tgt := 45) S.1 S.2.1 dX10_balance_32 (by decide) (fun hc => ?_) (fun hc => ?_)
    · have hF := it_pos hc hF
      obtain rfl := Option.some.inj hF
      exact xt_throw hst S hlk hno hT hW hl.1 (i := 13) rfl ⟨Nat.le_of_ble_eq_true rfl, Nat.le_of_ble_eq_true rfl, Nat.le_refl _, Nat.le_refl _⟩ dX10_balance_45 dX10_balance_48 dX10_balance_49 dX10_balance_51 dX10_balance_54
    · have hF := it_neg hc hF
      refine lv_iload_n S.1 S.2.1 dX10_balance_35 rfl (lv_at hl 4 rfl) ?_
      refine lv_iconst (v := (0 : Int32)) S.1 S.2.1 dX10_balance_36 (by decide) ?_
      refine lv_bipush (v := (60 : Int32)) S.1 S.2.1 dX10_balance_37 (by decide) ?_
      obtain ⟨u3, hu3, hF⟩ := bd_of hF
      refine sc_i (k := 3) (As := [.int a3, .int ((0 : Int32)), .int ((60 : Int32))]) (rest := []) (cC_isWithin l hu3) S (gd_S m_473 m_242 m_2 m_243) rfl rfl (by decide +kernel) ⟨Nat.le_of_ble_eq_true rfl, Nat.le_of_ble_eq_true rfl⟩ rfl hl.1 rfl (Nat.le_of_ble_eq_true rfl) ⟨Nat.le_of_ble_eq_true rfl, Nat.le_of_ble_eq_true rfl⟩ dX10_balance_39 ?_
      refine lv_if_ne (tgt := 55) S.1 S.2.1 dX10_balance_42 (by decide) (fun hc => ?_) (fun hc => ?_)
      · have hF := it_neg hc hF
        refine lv_aload_n S.1 S.2.1 dX10_balance_55 rfl (lv_at hl 1 rfl) ?_
        refine xg_X10_37 S hW dX10_balance_56 ?_
        refine xg_X10_210 S hW dX10_balance_59 ?_
        refine lv_aload S.1 S.2.1 dX10_balance_62 (lv_at hl 0 rfl) ?_
        refine lv_iload_n S.1 S.2.1 dX10_balance_64 rfl (lv_at hl 3 rfl) ?_
        refine lv_iload_n S.1 S.2.1 dX10_balance_65 rfl (lv_at hl 4 rfl) ?_
        obtain ⟨u4, hu4, hF⟩ := bd_of hF
        refine xc_l (k := 3) (As := [.ref (aM iu1), .int a2, .int a3]) (rest := []) (cC_Le_sumKnown l D ad cA kk A aM aC aE X hu4) (xr_RX5 hW) S hW (gd_V m_859 m_860 m_861 m_77 m_862) (by decide +kernel) ⟨Nat.le_of_ble_eq_true rfl, Nat.le_of_ble_eq_true rfl⟩ rfl hl.1 rfl (Nat.le_of_ble_eq_true rfl) ⟨Nat.le_of_ble_eq_true rfl, Nat.le_of_ble_eq_true rfl⟩ dX10_balance_66 (fun H locs hW => ?_)
        obtain rfl := Option.some.inj hF
        exact xt_l S hr hlk hW rfl dX10_balance_69
      · have hF := it_pos hc hF
        obtain rfl := Option.some.inj hF
        exact xt_throw hst S hlk hno hT hW hl.1 (i := 13) rfl ⟨Nat.le_of_ble_eq_true rfl, Nat.le_of_ble_eq_true rfl, Nat.le_refl _, Nat.le_refl _⟩ dX10_balance_45 dX10_balance_48 dX10_balance_49 dX10_balance_51 dX10_balance_54
