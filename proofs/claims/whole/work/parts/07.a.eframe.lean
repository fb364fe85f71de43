/-! calls whose room is wider than their charge -/
section E2
variable {p : Program} {l : Launch} {e : Env} {R : Room} {s : State} {m : MethodId} {args : Array Value} {below : List Frame} {meth : Method} {c : Code} {H : Heap} {locs : List Loc} {cells slots : Nat} {Q : State → Prop}
variable {y : MethodName} {bytes cc : ByteArray} {maxL nL mc ms n index : Nat} {ret : Option FieldType} {ws : List Cond} {rm : Room} {Pc : Array Value → State → Prop} {Qc : Array Value → State → Outcome → State → Prop} {free : Addr → Prop} {Ts : List Cond} {own C : String} {b : Addr} {As rest : List Value} {g : JFrame}
theorem callBack2 (cb : CallB R s args own index y bytes maxL ret ws rm rm.cells rm.slots n) (hM : Met l y ws rm Pc Qc mc ms free) (hbl : FrameBlind Pc) : Back l R p e below s args y 3 8 (PreOf R rm.cells rm.slots Pc) (PostOf Qc mc ms free) := by
  obtain ⟨-, -, hfr, hlo, hws, hcw, -, hini, -⟩ := cb
  refine Back.of_free (S := headSpec ws rm) (P := Pc) (K := fun _ _ _ _ _ => True) (Q := fun a st o t => Qc a st o t ∧ ∃ L, FrameEnd st o t L mc ms ∧ ∀ q ∈ L, free q.base) (bytes := bytes) (maxL := maxL) (ret := ret)
    (E := fun a st o t L k n => k = mc ∧ n = ms ∧ ∀ q ∈ L, free q.base) hM hfr hlo ?_ ?_ (fun _ _ _ _ _ _ _ _ _ => trivial) ?_ ?_
  · intro m meth c A a X hp
    exact ⟨atoms_intro fun w hw => hws w hw _ _ X.warmed, hws _ hcw _ _ X.warmed, word_at X.warmed (Or.inl (by first | rfl | simp [Cond.onTables, Cond.keeps, Cond.steady])) hini, hp.1, hp.2.1⟩
  · intro m meth c A a g mk X hp
    exact hbl _ _ _ _ hp.2.2
  · intro a st o t ⟨hq, L, hF, hL⟩
    exact ⟨L, mc, ms, hF, rfl, rfl, hL⟩
  · intro m meth c A a g mk v t L k n X hp hq hF ⟨e1, e2, hL⟩
    subst e1; subst e2
    exact ⟨g, mk, t, L, rfl, rfl, hq.1, rfl, hL, rfl, rfl⟩
theorem va_runV2 (S : CallFix p m c cc nL s args Ts own) (hM : Met l y ws rm Pc Qc mc ms free) (cw : CallW R s args own C index y bytes maxL ret ws rm rm.cells rm.slots n) (hp : PreV s H C b Pc As)
    (hg : g.method = m) (hn : As.length = n) (hsize : g.locals.size = nL) (hstack : g.stack = As.reverse ++ .ref b :: rest) (hW : 2 * g.monitorRoom + (rest.map fun v => v.category).sum ≤ 8) (hdg : decode cc g.pc = .ok (.invokevirtual index, 3)) (hf : cells + rm.cells ≤ R.cells ∧ slots + rm.slots ≤ R.slots) :
    va_Run p l e R s m args below meth c H locs cells slots mc ms g rest (Qc (Value.ref b :: As).toArray) (free) := by
  have hK : Back l R p e below s args y 3 8 (PreOf R rm.cells rm.slots Pc) (PostOf Qc mc ms free) := callBack2 cw.1 hM hp.1
  obtain ⟨⟨-, -, -, -, -, -, hcode, -, hy, hlen, hl⟩, hin, hse⟩ := cw
  obtain ⟨hx, hb, hml, ho, -⟩ := S
  obtain ⟨-, ⟨cellB, hcB, hoB, hclB⟩, hPc⟩ := hp
  intro T hT X
  obtain ⟨v, vm₁, ⟨U', l2, c2, s2⟩, hW₁, X', ⟨g', mk, t, L, e1, e2, hq, h1, hL, h2, h3⟩, st⟩ := callV X hx (C := C) (bytes := bytes) (maxL := maxL) (ret := ret) ho hl hin hse hcode hy hK (by rw [hT]; exact hcB) hoB hclB hg (hsize.trans hml.symm) (argsL := As) (rest := rest) (fun sig h => hn.trans (hlen sig h)) hstack hW (by rw [hb]; exact hdg)
    (fun vm₁ hW₁ => ⟨hf.1, hf.2, hPc (T.setVm vm₁) hT hW₁⟩)
  dsimp only [Pt.U, Pt.locs, Pt.cells, Pt.slots] at X' e1 e2 h1 h2 h3 st
  subst h1; subst h2; subst h3
  exact ⟨v, (T.setVm vm₁).calling g' mk (Value.ref b :: As).toArray, t, U', L, hT, X', hL, e1, e2, hq, st⟩
end E2
/-! what is made is counted by the lists -/
def nn (σ : SC) : Nat := xn σ 0 + xn σ 1 + xn σ 2
def cst (σ0 σ : SC) : Nat := 2 * (nn σ - nn σ0)
def sst (σ0 σ : SC) : Nat := 1300 * (nn σ - nn σ0)
def mrm (fr lo : Nat) (σ : SC) : Room := { frames := fr, cells := 2 * (1001 - nn σ), slots := 1300 * (1001 - nn σ), locals := lo }
theorem WF.nn {σ : SC} (h : WF σ) : nn σ ≤ 1001 := by
  have := h.2.2.1; have := h.2.2.2.1; have := h.2.2.2.2; unfold Jvm.Pilot.CBookClubLaw_law_r3536_451a4f.nn; omega
theorem cs_c {σ0 σ : SC} {fr lo : Nat} (h : nn σ0 ≤ nn σ) (hF : WF σ) : cst σ0 σ ≤ (mrm fr lo σ0).cells := by
  have := hF.nn; show 2 * (nn σ - nn σ0) ≤ 2 * (1001 - nn σ0); omega
theorem cs_s {σ0 σ : SC} {fr lo : Nat} (h : nn σ0 ≤ nn σ) (hF : WF σ) : sst σ0 σ ≤ (mrm fr lo σ0).slots := by
  have := hF.nn; show 1300 * (nn σ - nn σ0) ≤ 1300 * (1001 - nn σ0); omega
theorem cst_eq {σ0 σ σ' : SC} (h : nn σ' = nn σ) : cst σ0 σ = cst σ0 σ' := by unfold cst; rw [h]
theorem sst_eq {σ0 σ σ' : SC} (h : nn σ' = nn σ) : sst σ0 σ = sst σ0 σ' := by unfold sst; rw [h]
theorem cst_0 (σ : SC) : cst σ σ = 0 := by unfold cst; omega
theorem sst_0 (σ : SC) : sst σ σ = 0 := by unfold sst; omega
theorem xn_yz {σ : SC} {k : Nat} {v : Int32} (j : Nat) : xn (yz σ k v) j = xn σ j := rfl
theorem xn_yf {σ : SC} {k i : Nat} {v : Int32} (j : Nat) : xn (yf σ k i v) j = xn σ j := rfl
theorem xn_yg {σ : SC} {i : Nat} {v : Int64} (j : Nat) : xn (yg σ i v) j = xn σ j := rfl
theorem xn_ym {σ : SC} {k i : Nat} {v : Int32} (j : Nat) : xn (ym σ k i v) j = xn σ j := rfl
theorem xn_yb {σ : SC} {i : Nat} {v : Int64} (j : Nat) : xn (yb σ i v) j = xn σ j := rfl
theorem xn_yc {σ : SC} {k i : Nat} {v : Int32} (j : Nat) : xn (yc σ k i v) j = xn σ j := rfl
theorem xn_ye {σ : SC} {k i : Nat} {v : Int32} (j : Nat) : xn (ye σ k i v) j = xn σ j := rfl
/-! methods that write entries: the addresses of the entries are new -/
abbrev T3 : Type := (Nat → Nat) × (Nat → Nat) × (Nat → Nat)
def GE (aM aC : Nat → Nat) (u : T3) : Prop := u.1 = aM ∧ u.2.1 = aC
def GA (_ : T3) : Prop := True
def MvE (G : T3 → Prop) (l : Launch) (y : MethodName) (b : ByteArray) (n fr lo : Nat) (As : List Value) (D : va_G) (ad : Nat → Nat) (cA : Nat → ClassId) (kk : Nat → Nat) (A : Nat → Prop) (aM aC aE : Nat → Nat) (X : va_W) (σ σ' : SC) : Prop :=
  Met l y (Cond.code y b n none :: wsL) (mrm fr lo σ) (va_Pc As (CP D ad cA kk A aM aC aE X σ)) (va_Qv (fun (u : T3) => G u ∧ nn σ ≤ nn σ') (fun u t => CP D ad cA kk A u.1 u.2.1 u.2.2 X σ' t) A) (cst σ σ') (sst σ σ') A
def MiE (G : T3 → Prop) (l : Launch) (y : MethodName) (b : ByteArray) (n fr lo : Nat) (As : List Value) (D : va_G) (ad : Nat → Nat) (cA : Nat → ClassId) (kk : Nat → Nat) (A : Nat → Prop) (aM aC aE : Nat → Nat) (X : va_W) (σ : SC) (r : Int32) (σ' : SC) : Prop :=
  Met l y (Cond.code y b n (some .int) :: wsL) (mrm fr lo σ) (va_Pc As (CP D ad cA kk A aM aC aE X σ)) (va_Qi (fun x (u : T3) => x = r ∧ G u ∧ nn σ ≤ nn σ') (fun u t => CP D ad cA kk A u.1 u.2.1 u.2.2 X σ' t) A) (cst σ σ') (sst σ σ') A
def MlE (G : T3 → Prop) (l : Launch) (y : MethodName) (b : ByteArray) (n fr lo : Nat) (As : List Value) (D : va_G) (ad : Nat → Nat) (cA : Nat → ClassId) (kk : Nat → Nat) (A : Nat → Prop) (aM aC aE : Nat → Nat) (X : va_W) (σ : SC) (r : Int64) (σ' : SC) : Prop :=
  Met l y (Cond.code y b n (some .long) :: wsL) (mrm fr lo σ) (va_Pc As (CP D ad cA kk A aM aC aE X σ)) (va_Ql (fun x (u : T3) => x = r ∧ G u ∧ nn σ ≤ nn σ') (fun u t => CP D ad cA kk A u.1 u.2.1 u.2.2 X σ' t) A) (cst σ σ') (sst σ σ') A
def EW (D : va_G) (ad : Nat → Nat) (cA : Nat → ClassId) (kk : Nat → Nat) (A : Nat → Prop) (aM aC : Nat → Nat) (X : va_W) (σ0 σ : SC) (s : State) (H : Heap) (locs : List Loc) : Prop := ∃ aE : Nat → Nat, CW D ad cA kk A aM aC aE X σ s H locs ∧ nn σ0 ≤ nn σ
section EF
variable {p : Program} {l : Launch} {e : Env} {R : Room} {s : State} {m : MethodId} {args : Array Value} {below : List Frame} {meth : Method} {c : Code} {H : Heap} {locs : List Loc} {Q : State → Prop} {cc : ByteArray} {nL pc : Nat} {ls : Array Slot} {rest st : List Value} {own : String} {A : Nat → Prop} {D : va_G} {ad aM aC aE : Nat → Nat} {cA : Nat → ClassId} {kk : Nat → Nat} {X : va_W} {σ σ0 σ' : SC} {fr0 lo0 : Nat}
theorem jnE {g : JFrame} {cells slots : Nat} (c1 s1 : Nat) (Kp : Heap → List Loc → Array Slot → Prop) (pcJ : Nat) (st : List Value) (h1 : ∀ (H : Heap) (locs : List Loc) (ls : Array Slot), Kp H locs ls → W p l e R s m args below meth c H locs c1 s1 Q (F0 m pcJ ls st)) (h2 : (∀ (H : Heap) (locs : List Loc) (ls : Array Slot), Kp H locs ls → W p l e R s m args below meth c H locs c1 s1 Q (F0 m pcJ ls st)) → W p l e R s m args below meth c H locs cells slots Q g) : W p l e R s m args below meth c H locs cells slots Q g := h2 h1
theorem lpE {α β : Type} (cf sf : α → Nat) (Inv : α → Heap → List Loc → Array Slot → Prop) (pcH : Nat) (Lf : Nat → α → Option β) (v : β) (hz : ∀ x, Lf 0 x = none)
    (step : ∀ (n : Nat) (x : α), (∀ (y : α), Lf n y = some v → ∀ (H : Heap) (locs : List Loc) (ls : Array Slot), Inv y H locs ls → W p l e R s m args below meth c H locs (cf y) (sf y) Q (F0 m pcH ls [])) → Lf (n + 1) x = some v → ∀ (H : Heap) (locs : List Loc) (ls : Array Slot), Inv x H locs ls → W p l e R s m args below meth c H locs (cf x) (sf x) Q (F0 m pcH ls [])) :
    ∀ (n : Nat) (x : α), Lf n x = some v → ∀ (H : Heap) (locs : List Loc) (ls : Array Slot), Inv x H locs ls → W p l e R s m args below meth c H locs (cf x) (sf x) Q (F0 m pcH ls []) := by
  intro n
  induction n with
  | zero => intro x h; rw [hz x] at h; cases h
  | succ n ih => intro x h; exact step n x ih h
theorem er_v {G : T3 → Prop} (S : CallFix p m c cc nL s args wsL own) (hr : meth.sig.returnType = none) (hlk : meth.locks = false) (hG : G (aM, aC, aE)) (hle : nn σ0 ≤ nn σ) (hW : CW D ad cA kk A aM aC aE X σ s H locs) (hdg : decode cc pc = .ok (.return_, 1)) : W p l e R s m args below meth c H locs (cst σ0 σ) (sst σ0 σ) (MQ below (va_Qv (fun (u : T3) => G u ∧ nn σ0 ≤ nn σ) (fun u t => CP D ad cA kk A u.1 u.2.1 u.2.2 X σ t) A) args s (cst σ0 σ) (sst σ0 σ) A) (F0 m pc ls []) :=
  W.vret S.1 S.2.1 hr (fun t ht hw => ⟨⟨(aM, aC, aE), rfl, ⟨hG, hle⟩, hW.done ht hw⟩, hW.2.2.2.F ht⟩) hW.2.2.2.2.2 hdg hlk
theorem er_i {G : T3 → Prop} {v r : Int32} (S : CallFix p m c cc nL s args wsL own) (hr : meth.sig.returnType = some .int) (hlk : meth.locks = false) (hG : G (aM, aC, aE)) (hle : nn σ0 ≤ nn σ) (hW : CW D ad cA kk A aM aC aE X σ s H locs) (hv : v = r) (hdg : decode cc pc = .ok (.ireturn, 1)) : W p l e R s m args below meth c H locs (cst σ0 σ) (sst σ0 σ) (MQ below (va_Qi (fun x (u : T3) => x = r ∧ G u ∧ nn σ0 ≤ nn σ) (fun u t => CP D ad cA kk A u.1 u.2.1 u.2.2 X σ t) A) args s (cst σ0 σ) (sst σ0 σ) A) (F0 m pc ls [.int v]) :=
  W.zret S.1 S.2.1 hr rfl (fun t ht hw => ⟨⟨v, (aM, aC, aE), rfl, ⟨hv, hG, hle⟩, hW.done ht hw⟩, hW.2.2.2.F ht⟩) hW.2.2.2.2.2 hdg hlk
theorem er_l {G : T3 → Prop} {v r : Int64} (S : CallFix p m c cc nL s args wsL own) (hr : meth.sig.returnType = some .long) (hlk : meth.locks = false) (hG : G (aM, aC, aE)) (hle : nn σ0 ≤ nn σ) (hW : CW D ad cA kk A aM aC aE X σ s H locs) (hv : v = r) (hdg : decode cc pc = .ok (.lreturn, 1)) : W p l e R s m args below meth c H locs (cst σ0 σ) (sst σ0 σ) (MQ below (va_Ql (fun x (u : T3) => x = r ∧ G u ∧ nn σ0 ≤ nn σ) (fun u t => CP D ad cA kk A u.1 u.2.1 u.2.2 X σ t) A) args s (cst σ0 σ) (sst σ0 σ) A) (F0 m pc ls [.long v]) :=
  W.lret S.1 S.2.1 hr (fun t ht hw => ⟨⟨v, (aM, aC, aE), rfl, ⟨hv, hG, hle⟩, hW.done ht hw⟩, hW.2.2.2.F ht⟩) hW.2.2.2.2.2 hdg hlk
theorem cs_call {fr lo : Nat} (hle : nn σ0 ≤ nn σ) (hF : WF σ) : cst σ0 σ + (mrm fr lo σ).cells ≤ (mrm fr0 lo0 σ0).cells ∧ sst σ0 σ + (mrm fr lo σ).slots ≤ (mrm fr0 lo0 σ0).slots := by
  have := hF.nn
  constructor
  · show 2 * (nn σ - nn σ0) + 2 * (1001 - nn σ) ≤ 2 * (1001 - nn σ0); omega
  · show 1300 * (nn σ - nn σ0) + 1300 * (1001 - nn σ) ≤ 1300 * (1001 - nn σ0); omega
theorem cs_add (h1 : nn σ0 ≤ nn σ) (h2 : nn σ ≤ nn σ') : cst σ0 σ + cst σ σ' ≤ cst σ0 σ' ∧ sst σ0 σ + sst σ σ' ≤ sst σ0 σ' := by unfold cst sst; omega
variable {y : MethodName} {b : ByteArray} {n k idx fr lo : Nat} {As : List Value} {C : String} {q : Nat}
theorem xe_v (hM : MvE (GE aM aC) l y b n fr lo (.ref q :: As) D ad cA kk A aM aC aE X σ σ') (hrecv : ∃ cellB : Cell, H[q]? = some cellB ∧ cellB.vm.isStatics = false ∧ s.vm.findClass C = some cellB.cls) (S : CallFix p m c cc nL s args wsL own) (hle : nn σ0 ≤ nn σ) (hW : CW D ad cA kk A aM aC aE X σ s H locs) (hG : GoodIn wsL (wsV own idx C y (Cond.code y b n none :: wsL)))
    (hdd : y.cls = C ∧ y.cls ≠ "java/lang/invoke/MethodHandle" ∧ y.cls ≠ "java/lang/invoke/VarHandle" ∧ (parseMethodDescriptor y.desc).map (fun d => d.parameters.length) = some k) (hR : fr + 1 ≤ fr0 ∧ 8 + (n + 11) + lo ≤ lo0) (hk : As.length = k) (hsz : ls.size = nL) (hst : st = As.reverse ++ .ref q :: rest) (hrm : (rest.map fun v => v.category).sum ≤ 8) (hdg : decode cc pc = .ok (.invokevirtual idx, 3))
    (kq : ∀ (aE1 : Nat → Nat) (H1 : Heap) (locs1 : List Loc), CW D ad cA kk A aM aC aE1 X σ' s H1 locs1 → nn σ0 ≤ nn σ' → W p l e (mrm fr0 lo0 σ0) s m args below meth c H1 locs1 (cst σ0 σ') (sst σ0 σ') Q (F0 m (pc + 3) ls rest)) : W p l e (mrm fr0 lo0 σ0) s m args below meth c H locs (cst σ0 σ) (sst σ0 σ) Q (F0 m pc ls st) := by
  refine va_callv (va_runV2 (As := As) (rest := rest) (n := k) S hM (cwV k S.2.2.2.2 hG rfl rfl rfl hdd hR) (hW.pre hrecv As) rfl hk hsz hst (lv_room hrm) hdg (cs_call hle hW.2.2.1)) hW.2.2.2 (fun q _ h => h) (fun _ h => h) ?_
  intro u t H1 locs1 ht hvm hw hB _ _ hS
  obtain ⟨aM1, aC1, aE1⟩ := u
  obtain ⟨⟨e1, e2⟩, hl1⟩ := hw
  subst e1; subst e2
  have := cs_add hle hl1
  exact W.widen this.1 this.2 (kq aE1 H1 locs1 (CW.after hW.2.1 ht hB hS) (Nat.le_trans hle hl1))
theorem xe_i {r : Int32} (hM : MiE (GE aM aC) l y b n fr lo (.ref q :: As) D ad cA kk A aM aC aE X σ r σ') (hrecv : ∃ cellB : Cell, H[q]? = some cellB ∧ cellB.vm.isStatics = false ∧ s.vm.findClass C = some cellB.cls) (S : CallFix p m c cc nL s args wsL own) (hle : nn σ0 ≤ nn σ) (hW : CW D ad cA kk A aM aC aE X σ s H locs) (hG : GoodIn wsL (wsV own idx C y (Cond.code y b n (some .int) :: wsL)))
    (hdd : y.cls = C ∧ y.cls ≠ "java/lang/invoke/MethodHandle" ∧ y.cls ≠ "java/lang/invoke/VarHandle" ∧ (parseMethodDescriptor y.desc).map (fun d => d.parameters.length) = some k) (hR : fr + 1 ≤ fr0 ∧ 8 + (n + 11) + lo ≤ lo0) (hk : As.length = k) (hsz : ls.size = nL) (hst : st = As.reverse ++ .ref q :: rest) (hrm : (rest.map fun v => v.category).sum ≤ 8) (hdg : decode cc pc = .ok (.invokevirtual idx, 3))
    (kq : ∀ (aE1 : Nat → Nat) (H1 : Heap) (locs1 : List Loc), CW D ad cA kk A aM aC aE1 X σ' s H1 locs1 → nn σ0 ≤ nn σ' → W p l e (mrm fr0 lo0 σ0) s m args below meth c H1 locs1 (cst σ0 σ') (sst σ0 σ') Q (F0 m (pc + 3) ls (.int r :: rest))) : W p l e (mrm fr0 lo0 σ0) s m args below meth c H locs (cst σ0 σ) (sst σ0 σ) Q (F0 m pc ls st) := by
  refine va_calli (va_runV2 (As := As) (rest := rest) (n := k) S hM (cwV k S.2.2.2.2 hG rfl rfl rfl hdd hR) (hW.pre hrecv As) rfl hk hsz hst (lv_room hrm) hdg (cs_call hle hW.2.2.1)) hW.2.2.2 (fun q _ h => h) (fun _ h => h) ?_
  intro r' u t H1 locs1 ht hvm hw hB _ _ hS
  obtain ⟨aM1, aC1, aE1⟩ := u
  obtain ⟨rfl, ⟨e1, e2⟩, hl1⟩ := hw
  subst e1; subst e2
  have := cs_add hle hl1
  exact W.widen this.1 this.2 (kq aE1 H1 locs1 (CW.after hW.2.1 ht hB hS) (Nat.le_trans hle hl1))
theorem xe_l {r : Int64} (hM : MlE (GE aM aC) l y b n fr lo (.ref q :: As) D ad cA kk A aM aC aE X σ r σ') (hrecv : ∃ cellB : Cell, H[q]? = some cellB ∧ cellB.vm.isStatics = false ∧ s.vm.findClass C = some cellB.cls) (S : CallFix p m c cc nL s args wsL own) (hle : nn σ0 ≤ nn σ) (hW : CW D ad cA kk A aM aC aE X σ s H locs) (hG : GoodIn wsL (wsV own idx C y (Cond.code y b n (some .long) :: wsL)))
    (hdd : y.cls = C ∧ y.cls ≠ "java/lang/invoke/MethodHandle" ∧ y.cls ≠ "java/lang/invoke/VarHandle" ∧ (parseMethodDescriptor y.desc).map (fun d => d.parameters.length) = some k) (hR : fr + 1 ≤ fr0 ∧ 8 + (n + 11) + lo ≤ lo0) (hk : As.length = k) (hsz : ls.size = nL) (hst : st = As.reverse ++ .ref q :: rest) (hrm : (rest.map fun v => v.category).sum ≤ 8) (hdg : decode cc pc = .ok (.invokevirtual idx, 3))
    (kq : ∀ (aE1 : Nat → Nat) (H1 : Heap) (locs1 : List Loc), CW D ad cA kk A aM aC aE1 X σ' s H1 locs1 → nn σ0 ≤ nn σ' → W p l e (mrm fr0 lo0 σ0) s m args below meth c H1 locs1 (cst σ0 σ') (sst σ0 σ') Q (F0 m (pc + 3) ls (.long r :: rest))) : W p l e (mrm fr0 lo0 σ0) s m args below meth c H locs (cst σ0 σ) (sst σ0 σ) Q (F0 m pc ls st) := by
  refine va_calll (va_runV2 (As := As) (rest := rest) (n := k) S hM (cwV k S.2.2.2.2 hG rfl rfl rfl hdd hR) (hW.pre hrecv As) rfl hk hsz hst (lv_room hrm) hdg (cs_call hle hW.2.2.1)) hW.2.2.2 (fun q _ h => h) (fun _ h => h) ?_
  intro r' u t H1 locs1 ht hvm hw hB _ _ hS
  obtain ⟨aM1, aC1, aE1⟩ := u
  obtain ⟨rfl, ⟨e1, e2⟩, hl1⟩ := hw
  subst e1; subst e2
  have := cs_add hle hl1
  exact W.widen this.1 this.2 (kq aE1 H1 locs1 (CW.after hW.2.1 ht hB hS) (Nat.le_trans hle hl1))
/-- all addresses may be new -/
theorem xa_v {G : T3 → Prop} (hM : MvE G l y b n fr lo (.ref q :: As) D ad cA kk A aM aC aE X σ σ') (hrecv : ∃ cellB : Cell, H[q]? = some cellB ∧ cellB.vm.isStatics = false ∧ s.vm.findClass C = some cellB.cls) (S : CallFix p m c cc nL s args wsL own) (hle : nn σ0 ≤ nn σ) (hW : CW D ad cA kk A aM aC aE X σ s H locs) (hG : GoodIn wsL (wsV own idx C y (Cond.code y b n none :: wsL)))
    (hdd : y.cls = C ∧ y.cls ≠ "java/lang/invoke/MethodHandle" ∧ y.cls ≠ "java/lang/invoke/VarHandle" ∧ (parseMethodDescriptor y.desc).map (fun d => d.parameters.length) = some k) (hR : fr + 1 ≤ fr0 ∧ 8 + (n + 11) + lo ≤ lo0) (hk : As.length = k) (hsz : ls.size = nL) (hst : st = As.reverse ++ .ref q :: rest) (hrm : (rest.map fun v => v.category).sum ≤ 8) (hdg : decode cc pc = .ok (.invokevirtual idx, 3))
    (kq : ∀ (aM1 aC1 aE1 : Nat → Nat) (H1 : Heap) (locs1 : List Loc), CW D ad cA kk A aM1 aC1 aE1 X σ' s H1 locs1 → nn σ0 ≤ nn σ' → W p l e (mrm fr0 lo0 σ0) s m args below meth c H1 locs1 (cst σ0 σ') (sst σ0 σ') Q (F0 m (pc + 3) ls rest)) : W p l e (mrm fr0 lo0 σ0) s m args below meth c H locs (cst σ0 σ) (sst σ0 σ) Q (F0 m pc ls st) := by
  refine va_callv (va_runV2 (As := As) (rest := rest) (n := k) S hM (cwV k S.2.2.2.2 hG rfl rfl rfl hdd hR) (hW.pre hrecv As) rfl hk hsz hst (lv_room hrm) hdg (cs_call hle hW.2.2.1)) hW.2.2.2 (fun q _ h => h) (fun _ h => h) ?_
  intro u t H1 locs1 ht hvm hw hB _ _ hS
  have := cs_add hle hw.2
  exact W.widen this.1 this.2 (kq u.1 u.2.1 u.2.2 H1 locs1 (CW.after hW.2.1 ht hB hS) (Nat.le_trans hle hw.2))
theorem xa_i {G : T3 → Prop} {r : Int32} (hM : MiE G l y b n fr lo (.ref q :: As) D ad cA kk A aM aC aE X σ r σ') (hrecv : ∃ cellB : Cell, H[q]? = some cellB ∧ cellB.vm.isStatics = false ∧ s.vm.findClass C = some cellB.cls) (S : CallFix p m c cc nL s args wsL own) (hle : nn σ0 ≤ nn σ) (hW : CW D ad cA kk A aM aC aE X σ s H locs) (hG : GoodIn wsL (wsV own idx C y (Cond.code y b n (some .int) :: wsL)))
    (hdd : y.cls = C ∧ y.cls ≠ "java/lang/invoke/MethodHandle" ∧ y.cls ≠ "java/lang/invoke/VarHandle" ∧ (parseMethodDescriptor y.desc).map (fun d => d.parameters.length) = some k) (hR : fr + 1 ≤ fr0 ∧ 8 + (n + 11) + lo ≤ lo0) (hk : As.length = k) (hsz : ls.size = nL) (hst : st = As.reverse ++ .ref q :: rest) (hrm : (rest.map fun v => v.category).sum ≤ 8) (hdg : decode cc pc = .ok (.invokevirtual idx, 3))
    (kq : ∀ (aM1 aC1 aE1 : Nat → Nat) (H1 : Heap) (locs1 : List Loc), CW D ad cA kk A aM1 aC1 aE1 X σ' s H1 locs1 → nn σ0 ≤ nn σ' → W p l e (mrm fr0 lo0 σ0) s m args below meth c H1 locs1 (cst σ0 σ') (sst σ0 σ') Q (F0 m (pc + 3) ls (.int r :: rest))) : W p l e (mrm fr0 lo0 σ0) s m args below meth c H locs (cst σ0 σ) (sst σ0 σ) Q (F0 m pc ls st) := by
  refine va_calli (va_runV2 (As := As) (rest := rest) (n := k) S hM (cwV k S.2.2.2.2 hG rfl rfl rfl hdd hR) (hW.pre hrecv As) rfl hk hsz hst (lv_room hrm) hdg (cs_call hle hW.2.2.1)) hW.2.2.2 (fun q _ h => h) (fun _ h => h) ?_
  intro r' u t H1 locs1 ht hvm hw hB _ _ hS
  obtain ⟨rfl, hg, hl1⟩ := hw
  have := cs_add hle hl1
  exact W.widen this.1 this.2 (kq u.1 u.2.1 u.2.2 H1 locs1 (CW.after hW.2.1 ht hB hS) (Nat.le_trans hle hl1))
end EF
