
/-! throwing methods of the class: they return or throw NoSuchElementException; nothing changes -/
theorem CW.grow {A : Nat → Prop} {D : va_G} {ad aM aC aE : Nat → Nat} {cA : Nat → ClassId} {kk : Nat → Nat} {X : va_W} {σ : SC} {s : State} {H : Heap} {locs : List Loc} (hW : CW D ad cA kk A aM aC aE X σ s H locs) {t : State} (hz : H.size ≤ t.heap.size) (hk : ∀ q : Nat, q < H.size → t.heap[q]? = H[q]?) (hw : s.WarmedH t.vm) : CP D ad cA kk A aM aC aE X σ t ∧ va_F A s t := by
  obtain ⟨⟨lm, la, lc, lr, hP, hD, hL⟩, hE, hF, hS⟩ := hW
  have hS' : va_S A s.heap t.heap [] := ⟨Nat.le_trans hS.1 hz, fun q h1 h2 => by rw [hk q (Nat.lt_of_lt_of_le h1 hS.1)]; exact hS.2.1 q h1 h2, fun _ h => absurd h List.not_mem_nil⟩
  exact ⟨⟨⟨lm, la, lc, lr, hP.kept (fun k q hq => hk q.1 (vx_lt hP hq)), hD, hL⟩, hE.done hS' rfl hw, hF⟩, hS'.F rfl⟩
/-- where two statics of Throwable lie -/
def TL (A : Nat → Prop) (U : State) (H : Heap) : Prop := vx_L Bundle.tN "UNASSIGNED_STACK" Bundle.steD A U H ∧ vx_L Bundle.tN "SUPPRESSED_SENTINEL" Bundle.listD A U H
theorem TL.kept {A : Nat → Prop} {s t : State} {H : Heap} {locs : List Loc} (h : TL A s s.heap) (hS : va_S A s.heap H locs) (ht : t.heap = H) (hw : s.WarmedH t.vm) : TL A t t.heap := by
  subst ht
  exact ⟨vx_L.moved hw.alike (h.1.kept hS.2.1), vx_L.moved hw.alike (h.2.kept hS.2.1)⟩
theorem TL.same {A : Nat → Prop} {U : State} (h : TL A U U.heap) {g : JFrame} {mk : MethodId} {a : Array Value} : TL A (U.calling g mk a) (U.calling g mk a).heap := ⟨vx_L.moved (Vm.Alike.refl U.vm) h.1, vx_L.moved (Vm.Alike.refl U.vm) h.2⟩
def nse : String := "java/util/NoSuchElementException"
def nch : List String := ["java/lang/RuntimeException", "java/lang/Exception"]
theorem tw_tbl : ∀ w ∈ (vx_atS RX10 115 nse nch).filter goodWord, w ∈ lw_tbl := by decide +kernel
theorem tw_good : ∀ w ∈ (vx_atS RX10 115 nse nch).filter goodWord, w ∈ wsL := fun w hw => List.mem_filter.mpr ⟨tw_tbl w hw, (List.mem_filter.mp hw).2⟩
theorem tw_bad : ∀ w ∈ (vx_atS RX10 115 nse nch).filter (fun w => !goodWord w), w ∈ nwl := by decide +kernel
theorem tw_ot : ∀ w ∈ Cond.classLink RX10 111 nse :: Cond.initialized nse :: vx_atS RX10 115 nse nch, vx_ot w = true := by decide +kernel
/-- a contract: answers o, or throws where o is none -/
def MtT (l : Launch) (y : MethodName) (b : ByteArray) (n : Nat) (rm : Room) (As : List Value) (P : State → Prop) (o : Option Int64) (P' : State → Prop) (A : Nat → Prop) : Prop := vx_Met l y (Cond.code y b n (some .long) :: wsL) rm (va_Pc As P) (va_Ql (fun x (_ : Unit) => o = some x) (fun _ t => P' t) A) (vx_X (fun (_ : Unit) => o = none) (fun E _ t => E = nse ∧ P' t) A) 1 6 A
theorem MtT.of {l : Launch} {y : MethodName} {b : ByteArray} {n : Nat} {rm : Room} {As : List Value} {P : State → Prop} {o : Option Int64} {P' : State → Prop} {A : Nat → Prop} {own : String} (ho : y.cls = own) (hy : plainName y.cls = true) (hAs : (lg_sl As).length ≤ n)
    (body : ∀ (p : Program) (e : Env) (s : State) (m : MethodId) (args : Array Value) (below : List Frame) (meth : Method) (c : Code) (ls : Array Slot), CallFix p m c b n s args wsL own → meth.sig.returnType = some .long → meth.locks = false → (∀ x ∈ c.exceptionTable.toList, False) → P s → lv_has ls n (lv_args 0 As) → W p l e rm s m args below meth c s.heap [] 0 0 (vx_MQ below (va_Ql (fun x (_ : Unit) => o = some x) (fun _ t => P' t) A) (vx_X (fun (_ : Unit) => o = none) (fun E _ t => E = nse ∧ P' t) A) args s 1 6 A) (F0 m 0 ls [])) : MtT l y b n rm As P o P' A := by
  subst ho
  refine vx_ofW (cc := b) (maxL := n) (ret := some .long) hy rfl ?_
  intro p e s m args below meth c s₁ B hml hno hv
  obtain ⟨rfl, hP⟩ := hv
  have hts := atoms_spec (ws := Cond.code y b n (some .long) :: wsL) B.pre
  rw [lg_entry_eq]
  exact body p e s m _ below meth c _ ⟨B.exec, B.bytes, hml, findClass_of_methodNamed B.named, fun w h => hts w (List.mem_cons_of_mem _ h)⟩ B.returns B.notSynchronized hno hP (lv_entry As hAs)
section TT
variable {p : Program} {l : Launch} {e : Env} {R : Room} {s : State} {m : MethodId} {args : Array Value} {below : List Frame} {meth : Method} {c : Code} {H : Heap} {locs : List Loc} {cc : ByteArray} {nL pc : Nat} {ls : Array Slot} {own : String} {A : Nat → Prop} {D : va_G} {ad aM aC aE : Nat → Nat} {cA : Nat → ClassId} {kk : Nat → Nat} {X : va_W} {σ : SC}
theorem xt_l {v : Int64} {o : Option Int64} {XC : String → State → State → Prop} (S : CallFix p m c cc nL s args wsL own) (hr : meth.sig.returnType = some .long) (hlk : meth.locks = false) (hW : CW D ad cA kk A aM aC aE X σ s H locs) (hv : o = some v) (hdg : decode cc pc = .ok (.lreturn, 1)) : W p l e R s m args below meth c H locs 0 0 (vx_MQ below (va_Ql (fun x (_ : Unit) => o = some x) (fun _ t => CP D ad cA kk A aM aC aE X σ t) A) XC args s 1 6 A) (F0 m pc ls [.long v]) :=
  W.widen (k := 1) (n := 6) (by omega) (by omega) (vx_ret (W.lret S.1 S.2.1 hr (fun t ht hw => ⟨⟨v, (), rfl, hv, hW.done ht hw⟩, hW.2.2.2.F ht⟩) hW.2.2.2.2.2 hdg hlk))
theorem xt_throw (hst : l.stackTraces = false) (S : CallFix p m c cc nL s args wsL RX10) (hlk : meth.locks = false) (hno : ∀ x ∈ c.exceptionTable.toList, False) (hT : TL A s s.heap) (hW : CW D ad cA kk A aM aC aE X σ s H locs) (hsz : ls.size = nL) {i is : Nat} {text : String} (hi : ktx[i]? = some ("BookClub", is, text)) (hR : 6 ≤ R.frames ∧ 82 ≤ R.locals ∧ 1 ≤ R.cells ∧ 6 ≤ R.slots)
    (d0 : decode cc pc = .ok (.new 111, 3)) (d3 : decode cc (pc + 3) = .ok (.dup, 1)) (d4 : decode cc (pc + 4) = .ok (.ldc is, 2)) (d6 : decode cc (pc + 6) = .ok (.invokespecial 115, 3)) (d9 : decode cc (pc + 9) = .ok (.athrow, 1)) :
    W p l e R s m args below meth c H locs 0 0 (vx_MQ below (va_Ql (fun x (_ : Unit) => (none : Option Int64) = some x) (fun _ t => CP D ad cA kk A aM aC aE X σ t) A) (vx_X (fun (_ : Unit) => (none : Option Int64) = none) (fun E _ t => E = nse ∧ CP D ad cA kk A aM aC aE X σ t) A) args s 1 6 A) (F0 m pc ls []) :=
  vx_throwS (own := RX10) (cls := nse) (names := nch) (ik := 111) (is := is) (ic := 115) (text := text) (sa := kk i) (A := A) (rest := []) S.1 S.2.1 hst S.2.2.2.1 (by decide +kernel) (by decide +kernel) (S.2.2.2.2 _ m_660) (S.2.2.2.2 _ m_661) (hW.2.1.2.1.2.1 i _ hi)
    (vx_hat (fun w hw => S.2.2.2.2 w (tw_good w hw)) tw_bad (fun w hw => hW.2.1.2.2.1.use hw)) tw_ot ⟨hW.2.1.2.1.2.2.2.2.2.2.2.2.2.2.2.1, hT.1⟩ ⟨hW.2.1.2.1.2.2.2.2.2.2.2.2.2.2.2.2, hT.2⟩ hW.2.2.2 (hsz.trans S.2.2.1.symm) d0 d3 d4 d6 d9 (fun x hx => (hno x hx).elim) hR.1 (by show 0 + (13 * (2 + 1) + 43) ≤ R.locals; omega) (by omega) (by omega) hlk
    (fun t hw hz hk => ⟨(), rfl, ⟨rfl, (hW.grow hz hk hw).1⟩, (hW.grow hz hk hw).2⟩) hW.2.2.2.2.2 (by omega) (by omega)
end TT
def fC_B_member (σ : SC) (a1 : Int32) (a2 : Int32) : Option (Option Int64) :=
  Option.bind (fC_Cl_findMember σ a1) (fun u1 =>
  onull u1
  (some (none))
  (fun iu1 =>
  if a2 = (0 : Int32) then
  if xn σ 0 ≤ iu1 then none else
  some (some (((xm σ 1 iu1)).toInt64))
  else if a2 = (1 : Int32) then
  if xn σ 0 ≤ iu1 then none else
  some (some (((xm σ 2 iu1)).toInt64))
  else if a2 = (2 : Int32) then
  if xn σ 0 ≤ iu1 then none else
  some (some (((xm σ 3 iu1)).toInt64))
  else if a2 = (3 : Int32) then
  if xn σ 0 ≤ iu1 then none else
  some (some (((xm σ 4 iu1)).toInt64))
  else if a2 = (4 : Int32) then
  if xn σ 0 ≤ iu1 then none else
  some (some (((xm σ 5 iu1)).toInt64))
  else if a2 = (5 : Int32) then
  if xn σ 0 ≤ iu1 then none else
  some (some ((xb σ iu1)))
  else if a2 = (6 : Int32) then
  if xn σ 0 ≤ iu1 then none else
  some (some (((xm σ 7 iu1)).toInt64))
  else if a2 = (7 : Int32) then
  if xn σ 0 ≤ iu1 then none else
  if (xm σ 8 iu1) = 0 then
  some (some ((0 : Int64)))
  else
  some (some ((1 : Int64)))
  else if a2 = (8 : Int32) then
  if xn σ 0 ≤ iu1 then none else
  if (xm σ 9 iu1) = 0 then
  some (some ((0 : Int64)))
  else
  some (some ((1 : Int64)))
  else 
  some (none)))
set_option maxRecDepth 100000 in
set_option maxHeartbeats 4000000 in
theorem cC_B_member (l : Launch) (hst : l.stackTraces = false) (D : va_G) (ad : Nat → Nat) (cA : Nat → ClassId) (kk : Nat → Nat) (A : Nat → Prop) (aM aC aE : Nat → Nat) (X : va_W) {σ : SC} {a1 : Int32} {a2 : Int32} {o : Option Int64} (hF : fC_B_member σ a1 a2 = some o) : MtT l yX10_member cX10_member 4 { frames := 6, cells := 1, slots := 6, locals := 85 } [.ref (ad 0), .int a1, .int a2] (fun U => CP D ad cA kk A aM aC aE X σ U ∧ TL A U U.heap) o (CP D ad cA kk A aM aC aE X σ) A := by
  refine MtT.of (own := RX10) rfl (by decide +kernel) (Nat.le_of_ble_eq_true rfl) ?_
  intro p e s m args below meth c ls S hr hlk hno hP hl
  have hT := hP.2
  have hW := CW.start hP.1
  have hl : lv_has ls 4 [(0, .ref (ad 0)), (1, .int a1), (2, .int a2)] := hl
  rw [fC_B_member] at hF
  refine lv_aload_n S.1 S.2.1 dX10_member_0 rfl (lv_at hl 0 rfl) ?_
  refine xg_X10_37 S hW dX10_member_1 ?_
  refine lv_iload_n S.1 S.2.1 dX10_member_4 rfl (lv_at hl 1 rfl) ?_
  obtain ⟨u1, hu1, hF⟩ := bd_of hF
  refine xc_o (k := 1) (As := [.int a1]) (rest := []) (cC_Cl_findMember l D ad cA kk A aM aC aE X hu1) (xr_RX2 hW) S hW (gd_V m_574 m_575 m_576 m_27 m_577) (by decide +kernel) ⟨Nat.le_of_ble_eq_true rfl, Nat.le_of_ble_eq_true rfl⟩ rfl hl.1 rfl (Nat.le_of_ble_eq_true rfl) ⟨Nat.le_of_ble_eq_true rfl, Nat.le_of_ble_eq_true rfl⟩ dX10_member_5 (fun H locs hW => ?_)
  rcases on_of hF with ⟨he, hF⟩ | ⟨iu1, he, hF⟩
  · refine W.eq (g2 := F0 m 8 ls (.null :: [])) (by rw [he]; rfl) ?_
    refine lv_astore_nN (lv' := [(3, .null), (0, .ref (ad 0)), (1, .int a1), (2, .int a2)]) S.1 S.2.1 dX10_member_8 rfl hl (by decide) rfl (fun ls hl => ?_)
    refine lv_aload_nN S.1 S.2.1 dX10_member_9 rfl (lv_at hl 0 rfl) ?_
    refine lv_ifnonnullN S.1 S.2.1 dX10_member_10 ?_
    obtain rfl := Option.some.inj hF
    exact xt_throw hst S hlk hno hT hW hl.1 (i := 9) rfl ⟨Nat.le_of_ble_eq_true rfl, Nat.le_of_ble_eq_true rfl, Nat.le_refl _, Nat.le_refl _⟩ dX10_member_13 dX10_member_16 dX10_member_17 dX10_member_19 dX10_member_22
  · refine W.eq (g2 := F0 m 8 ls (.ref (aM iu1) :: [])) (by rw [he]; rfl) ?_
    refine lv_astore_n (lv' := [(3, .ref (aM iu1)), (0, .ref (ad 0)), (1, .int a1), (2, .int a2)]) S.1 S.2.1 dX10_member_8 rfl hl (by decide) rfl (fun ls hl => ?_)
    refine lv_aload_n S.1 S.2.1 dX10_member_9 rfl (lv_at hl 0 rfl) ?_
    refine lv_ifnonnull (tgt := 23) S.1 S.2.1 dX10_member_10 (by decide) ?_
    refine lv_iload_n S.1 S.2.1 dX10_member_23 rfl (lv_at hl 3 rfl) ?_
    rcases Classical.em (a2 = (0 : Int32)) with hc0 | hc0
    · have hF := it_pos hc0 hF
      refine lv_tableIn (off := 52) (tgt := 76) S.1 S.2.1 dX10_member_24 (by rw [hc0]; decide) (by rw [hc0]; decide) (by rw [hc0]; decide) (by decide) ?_
      refine lv_aload_n S.1 S.2.1 dX10_member_76 rfl (lv_at hl 0 rfl) ?_
      obtain ⟨h2, hF⟩ := gd_of hF
      refine xg_X10_118 S hW (Nat.lt_of_not_le h2) dX10_member_77 ?_
      refine lv_i2l (v := ((xm σ 1 iu1)).toInt64) S.1 S.2.1 dX10_member_80 rfl ?_
      obtain rfl := Option.some.inj hF
      exact xt_l S hr hlk hW rfl dX10_member_81
    · have hF := it_neg hc0 hF
      rcases Classical.em (a2 = (1 : Int32)) with hc1 | hc1
      · have hF := it_pos hc1 hF
        refine lv_tableIn (off := 58) (tgt := 82) S.1 S.2.1 dX10_member_24 (by rw [hc1]; decide) (by rw [hc1]; decide) (by rw [hc1]; decide) (by decide) ?_
        refine lv_aload_n S.1 S.2.1 dX10_member_82 rfl (lv_at hl 0 rfl) ?_
        obtain ⟨h3, hF⟩ := gd_of hF
        refine xg_X10_123 S hW (Nat.lt_of_not_le h3) dX10_member_83 ?_
        refine lv_i2l (v := ((xm σ 2 iu1)).toInt64) S.1 S.2.1 dX10_member_86 rfl ?_
        obtain rfl := Option.some.inj hF
        exact xt_l S hr hlk hW rfl dX10_member_87
      · have hF := it_neg hc1 hF
        rcases Classical.em (a2 = (2 : Int32)) with hc2 | hc2
        · have hF := it_pos hc2 hF
          refine lv_tableIn (off := 64) (tgt := 88) S.1 S.2.1 dX10_member_24 (by rw [hc2]; decide) (by rw [hc2]; decide) (by rw [hc2]; decide) (by decide) ?_
          refine lv_aload_n S.1 S.2.1 dX10_member_88 rfl (lv_at hl 0 rfl) ?_
          obtain ⟨h4, hF⟩ := gd_of hF
          refine xg_X10_126 S hW (Nat.lt_of_not_le h4) dX10_member_89 ?_
          refine lv_i2l (v := ((xm σ 3 iu1)).toInt64) S.1 S.2.1 dX10_member_92 rfl ?_
          obtain rfl := Option.some.inj hF
          exact xt_l S hr hlk hW rfl dX10_member_93
        · have hF := it_neg hc2 hF
          rcases Classical.em (a2 = (3 : Int32)) with hc3 | hc3
          · have hF := it_pos hc3 hF
            refine lv_tableIn (off := 70) (tgt := 94) S.1 S.2.1 dX10_member_24 (by rw [hc3]; decide) (by rw [hc3]; decide) (by rw [hc3]; decide) (by decide) ?_
            refine lv_aload_n S.1 S.2.1 dX10_member_94 rfl (lv_at hl 0 rfl) ?_
            obtain ⟨h5, hF⟩ := gd_of hF
            refine xg_X10_129 S hW (Nat.lt_of_not_le h5) dX10_member_95 ?_
            refine lv_i2l (v := ((xm σ 4 iu1)).toInt64) S.1 S.2.1 dX10_member_98 rfl ?_
            obtain rfl := Option.some.inj hF
            exact xt_l S hr hlk hW rfl dX10_member_99
          · have hF := it_neg hc3 hF
            rcases Classical.em (a2 = (4 : Int32)) with hc4 | hc4
            · have hF := it_pos hc4 hF
              refine lv_tableIn (off := 76) (tgt := 100) S.1 S.2.1 dX10_member_24 (by rw [hc4]; decide) (by rw [hc4]; decide) (by rw [hc4]; decide) (by decide) ?_
              refine lv_aload_n S.1 S.2.1 dX10_member_100 rfl (lv_at hl 0 rfl) ?_
              obtain ⟨h6, hF⟩ := gd_of hF
              refine xg_X10_132 S hW (Nat.lt_of_not_le h6) dX10_member_101 ?_
              refine lv_i2l (v := ((xm σ 5 iu1)).toInt64) S.1 S.2.1 dX10_member_104 rfl ?_
              obtain rfl := Option.some.inj hF
              exact xt_l S hr hlk hW rfl dX10_member_105
            · have hF := it_neg hc4 hF
              rcases Classical.em (a2 = (5 : Int32)) with hc5 | hc5
              · have hF := it_pos hc5 hF
                refine lv_tableIn (off := 82) (tgt := 106) S.1 S.2.1 dX10_member_24 (by rw [hc5]; decide) (by rw [hc5]; decide) (by rw [hc5]; decide) (by decide) ?_
                refine lv_aload_n S.1 S.2.1 dX10_member_106 rfl (lv_at hl 0 rfl) ?_
                obtain ⟨h7, hF⟩ := gd_of hF
                refine xg_X10_135 S hW (Nat.lt_of_not_le h7) dX10_member_107 ?_
                obtain rfl := Option.some.inj hF
                exact xt_l S hr hlk hW rfl dX10_member_110
              · have hF := it_neg hc5 hF
                rcases Classical.em (a2 = (6 : Int32)) with hc6 | hc6
                · have hF := it_pos hc6 hF
                  refine lv_tableIn (off := 87) (tgt := 111) S.1 S.2.1 dX10_member_24 (by rw [hc6]; decide) (by rw [hc6]; decide) (by rw [hc6]; decide) (by decide) ?_
                  refine lv_aload_n S.1 S.2.1 dX10_member_111 rfl (lv_at hl 0 rfl) ?_
                  obtain ⟨h8, hF⟩ := gd_of hF
                  refine xg_X10_139 S hW (Nat.lt_of_not_le h8) dX10_member_112 ?_
                  refine lv_i2l (v := ((xm σ 7 iu1)).toInt64) S.1 S.2.1 dX10_member_115 rfl ?_
                  obtain rfl := Option.some.inj hF
                  exact xt_l S hr hlk hW rfl dX10_member_116
                · have hF := it_neg hc6 hF
                  rcases Classical.em (a2 = (7 : Int32)) with hc7 | hc7
                  · have hF := it_pos hc7 hF
                    refine lv_tableIn (off := 93) (tgt := 117) S.1 S.2.1 dX10_member_24 (by rw [hc7]; decide) (by rw [hc7]; decide) (by rw [hc7]; decide) (by decide) ?_
                    refine lv_aload_n S.1 S.2.1 dX10_member_117 rfl (lv_at hl 0 rfl) ?_
                    obtain ⟨h9, hF⟩ := gd_of hF
                    refine xg_X10_142 S hW (Nat.lt_of_not_le h9) dX10_member_118 ?_
                    refine lv_if_eq (tgt := 128) S.1 S.2.1 dX10_member_121 (by decide) (fun hc => ?_) (fun hc => ?_)
                    · have hF := it_pos hc hF
                      refine lv_lconst (v := (0 : Int64)) S.1 S.2.1 dX10_member_128 (by decide) ?_
                      obtain rfl := Option.some.inj hF
                      exact xt_l S hr hlk hW rfl dX10_member_129
                    · have hF := it_neg hc hF
                      refine lv_lconst (v := (1 : Int64)) S.1 S.2.1 dX10_member_124 (by decide) ?_
                      refine lv_goto (tgt := 129) S.1 S.2.1 dX10_member_125 (by decide) ?_
                      obtain rfl := Option.some.inj hF
                      exact xt_l S hr hlk hW rfl dX10_member_129
                  · have hF := it_neg hc7 hF
                    rcases Classical.em (a2 = (8 : Int32)) with hc8 | hc8
                    · have hF := it_pos hc8 hF
                      refine lv_tableIn (off := 106) (tgt := 130) S.1 S.2.1 dX10_member_24 (by rw [hc8]; decide) (by rw [hc8]; decide) (by rw [hc8]; decide) (by decide) ?_
                      refine lv_aload_n S.1 S.2.1 dX10_member_130 rfl (lv_at hl 0 rfl) ?_
                      obtain ⟨h10, hF⟩ := gd_of hF
                      refine xg_X10_146 S hW (Nat.lt_of_not_le h10) dX10_member_131 ?_
                      refine lv_if_eq (tgt := 141) S.1 S.2.1 dX10_member_134 (by decide) (fun hc => ?_) (fun hc => ?_)
                      · have hF := it_pos hc hF
                        refine lv_lconst (v := (0 : Int64)) S.1 S.2.1 dX10_member_141 (by decide) ?_
                        obtain rfl := Option.some.inj hF
                        exact xt_l S hr hlk hW rfl dX10_member_142
                      · have hF := it_neg hc hF
                        refine lv_lconst (v := (1 : Int64)) S.1 S.2.1 dX10_member_137 (by decide) ?_
                        refine lv_goto (tgt := 142) S.1 S.2.1 dX10_member_138 (by decide) ?_
                        obtain rfl := Option.some.inj hF
                        exact xt_l S hr hlk hW rfl dX10_member_142
                    · have hF := it_neg hc8 hF
                      have n0 := sw_ne hc0
                      have n1 := sw_ne hc1
                      have n2 := sw_ne hc2
                      have n3 := sw_ne hc3
                      have n4 := sw_ne hc4
                      have n5 := sw_ne hc5
                      have n6 := sw_ne hc6
                      have n7 := sw_ne hc7
                      have n8 := sw_ne hc8
                      refine lv_tableOut (tgt := 143) S.1 S.2.1 dX10_member_24 (by simp only [tI_0, tI_1, tI_2, tI_3, tI_4, tI_5, tI_6, tI_7, tI_8] at n0 n1 n2 n3 n4 n5 n6 n7 n8; omega) (by decide) ?_
                      obtain rfl := Option.some.inj hF
                      exact xt_throw hst S hlk hno hT hW hl.1 (i := 10) rfl ⟨Nat.le_of_ble_eq_true rfl, Nat.le_of_ble_eq_true rfl, Nat.le_refl _, Nat.le_refl _⟩ dX10_member_143 dX10_member_146 dX10_member_147 dX10_member_149 dX10_member_152
def fC_B_entry (σ : SC) (a1 : Int32) (a2 : Int32) : Option (Option Int64) :=
  Option.bind (fC_Le_find σ a1) (fun u1 =>
  onull u1
  (some (none))
  (fun iu1 =>
  if a2 = (0 : Int32) then
  if xn σ 2 ≤ iu1 then none else
  if xn σ 0 ≤ (xo σ iu1) then none else
  some (some (((xm σ 0 ((xo σ iu1)))).toInt64))
  else if a2 = (1 : Int32) then
  if xn σ 2 ≤ iu1 then none else
  some (some (((xe σ 1 iu1)).toInt64))
  else if a2 = (2 : Int32) then
  if xn σ 2 ≤ iu1 then none else
  some (some (((xe σ 2 iu1)).toInt64))
  else if a2 = (3 : Int32) then
  if xn σ 2 ≤ iu1 then none else
  some (some ((xa σ iu1)))
  else if a2 = (4 : Int32) then
  if xn σ 2 ≤ iu1 then none else
  some (some (((xe σ 4 iu1)).toInt64))
  else 
  some (none)))
set_option maxRecDepth 100000 in
set_option maxHeartbeats 4000000 in
theorem cC_B_entry (l : Launch) (hst : l.stackTraces = false) (D : va_G) (ad : Nat → Nat) (cA : Nat → ClassId) (kk : Nat → Nat) (A : Nat → Prop) (aM aC aE : Nat → Nat) (X : va_W) {σ : SC} {a1 : Int32} {a2 : Int32} {o : Option Int64} (hF : fC_B_entry σ a1 a2 = some o) : MtT l yX10_entry cX10_entry 4 { frames := 6, cells := 1, slots := 6, locals := 85 } [.ref (ad 0), .int a1, .int a2] (fun U => CP D ad cA kk A aM aC aE X σ U ∧ TL A U U.heap) o (CP D ad cA kk A aM aC aE X σ) A := by
  refine MtT.of (own := RX10) rfl (by decide +kernel) (Nat.le_of_ble_eq_true rfl) ?_
  intro p e s m args below meth c ls S hr hlk hno hP hl
  have hT := hP.2
  have hW := CW.start hP.1
  have hl : lv_has ls 4 [(0, .ref (ad 0)), (1, .int a1), (2, .int a2)] := hl
  rw [fC_B_entry] at hF
  refine lv_aload_n S.1 S.2.1 dX10_entry_0 rfl (lv_at hl 0 rfl) ?_
  refine xg_X10_37 S hW dX10_entry_1 ?_
  refine xg_X10_210 S hW dX10_entry_4 ?_
  refine lv_iload_n S.1 S.2.1 dX10_entry_7 rfl (lv_at hl 1 rfl) ?_
  obtain ⟨u1, hu1, hF⟩ := bd_of hF
  refine xc_o (k := 1) (As := [.int a1]) (rest := []) (cC_Le_find l D ad cA kk A aM aC aE X hu1) (xr_RX5 hW) S hW (gd_V m_830 m_831 m_832 m_77 m_833) (by decide +kernel) ⟨Nat.le_of_ble_eq_true rfl, Nat.le_of_ble_eq_true rfl⟩ rfl hl.1 rfl (Nat.le_of_ble_eq_true rfl) ⟨Nat.le_of_ble_eq_true rfl, Nat.le_of_ble_eq_true rfl⟩ dX10_entry_8 (fun H locs hW => ?_)
  rcases on_of hF with ⟨he, hF⟩ | ⟨iu1, he, hF⟩
  · refine W.eq (g2 := F0 m 11 ls (.null :: [])) (by rw [he]; rfl) ?_
    refine lv_astore_nN (lv' := [(3, .null), (0, .ref (ad 0)), (1, .int a1), (2, .int a2)]) S.1 S.2.1 dX10_entry_11 rfl hl (by decide) rfl (fun ls hl => ?_)
    refine lv_aload_nN S.1 S.2.1 dX10_entry_12 rfl (lv_at hl 0 rfl) ?_
    refine lv_ifnonnullN S.1 S.2.1 dX10_entry_13 ?_
    obtain rfl := Option.some.inj hF
    exact xt_throw hst S hlk hno hT hW hl.1 (i := 11) rfl ⟨Nat.le_of_ble_eq_true rfl, Nat.le_of_ble_eq_true rfl, Nat.le_refl _, Nat.le_refl _⟩ dX10_entry_16 dX10_entry_19 dX10_entry_20 dX10_entry_22 dX10_entry_25
  · refine W.eq (g2 := F0 m 11 ls (.ref (aE iu1) :: [])) (by rw [he]; rfl) ?_
    refine lv_astore_n (lv' := [(3, .ref (aE iu1)), (0, .ref (ad 0)), (1, .int a1), (2, .int a2)]) S.1 S.2.1 dX10_entry_11 rfl hl (by decide) rfl (fun ls hl => ?_)
    refine lv_aload_n S.1 S.2.1 dX10_entry_12 rfl (lv_at hl 0 rfl) ?_
    refine lv_ifnonnull (tgt := 26) S.1 S.2.1 dX10_entry_13 (by decide) ?_
    refine lv_iload_n S.1 S.2.1 dX10_entry_26 rfl (lv_at hl 3 rfl) ?_
    rcases Classical.em (a2 = (0 : Int32)) with hc0 | hc0
    · have hF := it_pos hc0 hF
      refine lv_tableIn (off := 33) (tgt := 60) S.1 S.2.1 dX10_entry_27 (by rw [hc0]; decide) (by rw [hc0]; decide) (by rw [hc0]; decide) (by decide) ?_
      refine lv_aload_n S.1 S.2.1 dX10_entry_60 rfl (lv_at hl 0 rfl) ?_
      obtain ⟨h2, hF⟩ := gd_of hF
      refine xg_X10_226 S hW (Nat.lt_of_not_le h2) dX10_entry_61 ?_
      obtain ⟨h3, hF⟩ := gd_of hF
      refine xg_X10_232 S hW (Nat.lt_of_not_le h3) dX10_entry_64 ?_
      refine lv_i2l (v := ((xm σ 0 ((xo σ iu1)))).toInt64) S.1 S.2.1 dX10_entry_67 rfl ?_
      obtain rfl := Option.some.inj hF
      exact xt_l S hr hlk hW rfl dX10_entry_68
    · have hF := it_neg hc0 hF
      rcases Classical.em (a2 = (1 : Int32)) with hc1 | hc1
      · have hF := it_pos hc1 hF
        refine lv_tableIn (off := 42) (tgt := 69) S.1 S.2.1 dX10_entry_27 (by rw [hc1]; decide) (by rw [hc1]; decide) (by rw [hc1]; decide) (by decide) ?_
        refine lv_aload_n S.1 S.2.1 dX10_entry_69 rfl (lv_at hl 0 rfl) ?_
        obtain ⟨h4, hF⟩ := gd_of hF
        refine xg_X10_235 S hW (Nat.lt_of_not_le h4) dX10_entry_70 ?_
        refine lv_i2l (v := ((xe σ 1 iu1)).toInt64) S.1 S.2.1 dX10_entry_73 rfl ?_
        obtain rfl := Option.some.inj hF
        exact xt_l S hr hlk hW rfl dX10_entry_74
      · have hF := it_neg hc1 hF
        rcases Classical.em (a2 = (2 : Int32)) with hc2 | hc2
        · have hF := it_pos hc2 hF
          refine lv_tableIn (off := 48) (tgt := 75) S.1 S.2.1 dX10_entry_27 (by rw [hc2]; decide) (by rw [hc2]; decide) (by rw [hc2]; decide) (by decide) ?_
          refine lv_aload_n S.1 S.2.1 dX10_entry_75 rfl (lv_at hl 0 rfl) ?_
          obtain ⟨h5, hF⟩ := gd_of hF
          refine xg_X10_236 S hW (Nat.lt_of_not_le h5) dX10_entry_76 ?_
          refine lv_i2l (v := ((xe σ 2 iu1)).toInt64) S.1 S.2.1 dX10_entry_79 rfl ?_
          obtain rfl := Option.some.inj hF
          exact xt_l S hr hlk hW rfl dX10_entry_80
        · have hF := it_neg hc2 hF
          rcases Classical.em (a2 = (3 : Int32)) with hc3 | hc3
          · have hF := it_pos hc3 hF
            refine lv_tableIn (off := 54) (tgt := 81) S.1 S.2.1 dX10_entry_27 (by rw [hc3]; decide) (by rw [hc3]; decide) (by rw [hc3]; decide) (by decide) ?_
            refine lv_aload_n S.1 S.2.1 dX10_entry_81 rfl (lv_at hl 0 rfl) ?_
            obtain ⟨h6, hF⟩ := gd_of hF
            refine xg_X10_239 S hW (Nat.lt_of_not_le h6) dX10_entry_82 ?_
            obtain rfl := Option.some.inj hF
            exact xt_l S hr hlk hW rfl dX10_entry_85
          · have hF := it_neg hc3 hF
            rcases Classical.em (a2 = (4 : Int32)) with hc4 | hc4
            · have hF := it_pos hc4 hF
              refine lv_tableIn (off := 59) (tgt := 86) S.1 S.2.1 dX10_entry_27 (by rw [hc4]; decide) (by rw [hc4]; decide) (by rw [hc4]; decide) (by decide) ?_
              refine lv_aload_n S.1 S.2.1 dX10_entry_86 rfl (lv_at hl 0 rfl) ?_
              obtain ⟨h7, hF⟩ := gd_of hF
              refine xg_X10_242 S hW (Nat.lt_of_not_le h7) dX10_entry_87 ?_
              refine lv_i2l (v := ((xe σ 4 iu1)).toInt64) S.1 S.2.1 dX10_entry_90 rfl ?_
              obtain rfl := Option.some.inj hF
              exact xt_l S hr hlk hW rfl dX10_entry_91
            · have hF := it_neg hc4 hF
              have n0 := sw_ne hc0
              have n1 := sw_ne hc1
              have n2 := sw_ne hc2
              have n3 := sw_ne hc3
              have n4 := sw_ne hc4
              refine lv_tableOut (tgt := 92) S.1 S.2.1 dX10_entry_27 (by simp only [tI_0, tI_1, tI_2, tI_3, tI_4] at n0 n1 n2 n3 n4; omega) (by decide) ?_
              obtain rfl := Option.some.inj hF
              exact xt_throw hst S hlk hno hT hW hl.1 (i := 12) rfl ⟨Nat.le_of_ble_eq_true rfl, Nat.le_of_ble_eq_true rfl, Nat.le_refl _, Nat.le_refl _⟩ dX10_entry_92 dX10_entry_95 dX10_entry_96 dX10_entry_98 dX10_entry_101
def fC_B_balance (σ : SC) (a1 : Int32) (a2 : Int32) (a3 : Int32) : Option (Option Int64) :=
  Option.bind (fC_Cl_findMember σ a1) (fun u1 =>
  onull u1
  (some (none))
  (fun iu1 =>
  Option.bind (fC_isWithin a2 ((0 : Int32)) ((60 : Int32))) (fun u2 =>
  if u2 = 0 then
  some (none)
  else
  Option.bind (fC_isWithin a3 ((0 : Int32)) ((60 : Int32))) (fun u3 =>
  if u3 = 0 then
  some (none)
  else
  Option.bind (fC_Le_sumKnown σ (some iu1) a2 a3) (fun u4 =>
  some (some u4))))))
set_option maxRecDepth 100000 in
set_option maxHeartbeats 4000000 in
theorem cC_B_balance (l : Launch) (hst : l.stackTraces = false) (D : va_G) (ad : Nat → Nat) (cA : Nat → ClassId) (kk : Nat → Nat) (A : Nat → Prop) (aM aC aE : Nat → Nat) (X : va_W) {σ : SC} {a1 : Int32} {a2 : Int32} {a3 : Int32} {o : Option Int64} (hF : fC_B_balance σ a1 a2 a3 = some o) : MtT l yX10_balance cX10_balance 5 { frames := 6, cells := 1, slots := 6, locals := 91 } [.ref (ad 0), .int a1, .int a2, .int a3] (fun U => CP D ad cA kk A aM aC aE X σ U ∧ TL A U U.heap) o (CP D ad cA kk A aM aC aE X σ) A := by
  refine MtT.of (own := RX10) rfl (by decide +kernel) (Nat.le_of_ble_eq_true rfl) ?_
  intro p e s m args below meth c ls S hr hlk hno hP hl
  have hT := hP.2
  have hW := CW.start hP.1
  have hl : lv_has ls 5 [(0, .ref (ad 0)), (1, .int a1), (2, .int a2), (3, .int a3)] := hl
  rw [fC_B_balance] at hF
  refine lv_aload_n S.1 S.2.1 dX10_balance_0 rfl (lv_at hl 0 rfl) ?_
  refine xg_X10_37 S hW dX10_balance_1 ?_
  refine lv_iload_n S.1 S.2.1 dX10_balance_4 rfl (lv_at hl 1 rfl) ?_
  obtain ⟨u1, hu1, hF⟩ := bd_of hF
  refine xc_o (k := 1) (As := [.int a1]) (rest := []) (cC_Cl_findMember l D ad cA kk A aM aC aE X hu1) (xr_RX2 hW) S hW (gd_V m_574 m_575 m_576 m_27 m_577) (by decide +kernel) ⟨Nat.le_of_ble_eq_true rfl, Nat.le_of_ble_eq_true rfl⟩ rfl hl.1 rfl (Nat.le_of_ble_eq_true rfl) ⟨Nat.le_of_ble_eq_true rfl, Nat.le_of_ble_eq_true rfl⟩ dX10_balance_5 (fun H locs hW => ?_)
  rcases on_of hF with ⟨he, hF⟩ | ⟨iu1, he, hF⟩
  · refine W.eq (g2 := F0 m 8 ls (.null :: [])) (by rw [he]; rfl) ?_
    refine lv_astoreN (lv' := [(4, .null), (0, .ref (ad 0)), (1, .int a1), (2, .int a2), (3, .int a3)]) S.1 S.2.1 dX10_balance_8 hl (by decide) rfl (fun ls hl => ?_)
    refine lv_aloadN S.1 S.2.1 dX10_balance_10 (lv_at hl 0 rfl) ?_
    refine lv_ifnonnullN S.1 S.2.1 dX10_balance_12 ?_
    obtain rfl := Option.some.inj hF
    exact xt_throw hst S hlk hno hT hW hl.1 (i := 9) rfl ⟨Nat.le_of_ble_eq_true rfl, Nat.le_of_ble_eq_true rfl, Nat.le_refl _, Nat.le_refl _⟩ dX10_balance_15 dX10_balance_18 dX10_balance_19 dX10_balance_21 dX10_balance_24
  · refine W.eq (g2 := F0 m 8 ls (.ref (aM iu1) :: [])) (by rw [he]; rfl) ?_
    refine lv_astore (lv' := [(4, .ref (aM iu1)), (0, .ref (ad 0)), (1, .int a1), (2, .int a2), (3, .int a3)]) S.1 S.2.1 dX10_balance_8 hl (by decide) rfl (fun ls hl => ?_)
    refine lv_aload S.1 S.2.1 dX10_balance_10 (lv_at hl 0 rfl) ?_
    refine lv_ifnonnull (tgt := 25) S.1 S.2.1 dX10_balance_12 (by decide) ?_
    refine lv_iload_n S.1 S.2.1 dX10_balance_25 rfl (lv_at hl 3 rfl) ?_
    refine lv_iconst (v := (0 : Int32)) S.1 S.2.1 dX10_balance_26 (by decide) ?_
    refine lv_bipush (v := (60 : Int32)) S.1 S.2.1 dX10_balance_27 (by decide) ?_
    obtain ⟨u2, hu2, hF⟩ := bd_of hF
    refine sc_i (k := 3) (As := [.int a2, .int ((0 : Int32)), .int ((60 : Int32))]) (rest := []) (cC_isWithin l hu2) S (gd_S m_473 m_242 m_2 m_243) rfl rfl (by decide +kernel) ⟨Nat.le_of_ble_eq_true rfl, Nat.le_of_ble_eq_true rfl⟩ rfl hl.1 rfl (Nat.le_of_ble_eq_true rfl) ⟨Nat.le_of_ble_eq_true rfl, Nat.le_of_ble_eq_true rfl⟩ dX10_balance_29 ?_
    refine lv_if_eq (tgt := 45) S.1 S.2.1 dX10_balance_32 (by decide) (fun hc => ?_) (fun hc => ?_)
    · have hF := it_pos hc hF
      obtain rfl := Option.some.inj hF
      exact xt_throw hst S hlk hno hT hW hl.1 (i := 13) rfl ⟨Nat.le_of_ble_eq_true rfl, Nat.le_of_ble_eq_true rfl, Nat.le_refl _, Nat.le_refl _⟩ dX10_balance_45 dX10_balance_48 dX10_balance_49 dX10_balance_51 dX10_balance_54
    · have hF := it_neg hc hF
      refine lv_iload_n S.1 S.2.1 dX10_balance_35 rfl (lv_at hl 4 rfl) ?_
      refine lv_iconst (v := (0 : Int32)) S.1 S.2.1 dX10_balance_36 (by decide) ?_
      refine lv_bipush (v := (60 : Int32)) S.1 S.2.1 dX10_balance_37 (by decide) ?_
      obtain ⟨u3, hu3, hF⟩ := bd_of hF
      refine sc_i (k := 3) (As := [.int a3, .int ((0 : Int32)), .int ((60 : Int32))]) (rest := []) (cC_isWithin l hu3) S (gd_S m_473 m_242 m_2 m_243) rfl rfl (by decide +kernel) ⟨Nat.le_of_ble_eq_true rfl, Nat.le_of_ble_eq_true rfl⟩ rfl hl.1 rfl (Nat.le_of_ble_eq_true rfl) ⟨Nat.le_of_ble_eq_true rfl, Nat.le_of_ble_eq_true rfl⟩ dX10_balance_39 ?_
      refine lv_if_ne (tgt := 55) S.1 S.2.1 dX10_balance_42 (by decide) (fun hc => ?_) (fun hc => ?_)
      · have hF := it_neg hc hF
        refine lv_aload_n S.1 S.2.1 dX10_balance_55 rfl (lv_at hl 1 rfl) ?_
        refine xg_X10_37 S hW dX10_balance_56 ?_
        refine xg_X10_210 S hW dX10_balance_59 ?_
        refine lv_aload S.1 S.2.1 dX10_balance_62 (lv_at hl 0 rfl) ?_
        refine lv_iload_n S.1 S.2.1 dX10_balance_64 rfl (lv_at hl 3 rfl) ?_
        refine lv_iload_n S.1 S.2.1 dX10_balance_65 rfl (lv_at hl 4 rfl) ?_
        obtain ⟨u4, hu4, hF⟩ := bd_of hF
        refine xc_l (k := 3) (As := [.ref (aM iu1), .int a2, .int a3]) (rest := []) (cC_Le_sumKnown l D ad cA kk A aM aC aE X hu4) (xr_RX5 hW) S hW (gd_V m_859 m_860 m_861 m_77 m_862) (by decide +kernel) ⟨Nat.le_of_ble_eq_true rfl, Nat.le_of_ble_eq_true rfl⟩ rfl hl.1 rfl (Nat.le_of_ble_eq_true rfl) ⟨Nat.le_of_ble_eq_true rfl, Nat.le_of_ble_eq_true rfl⟩ dX10_balance_66 (fun H locs hW => ?_)
        obtain rfl := Option.some.inj hF
        exact xt_l S hr hlk hW rfl dX10_balance_69
      · have hF := it_pos hc hF
        obtain rfl := Option.some.inj hF
        exact xt_throw hst S hlk hno hT hW hl.1 (i := 13) rfl ⟨Nat.le_of_ble_eq_true rfl, Nat.le_of_ble_eq_true rfl, Nat.le_refl _, Nat.le_refl _⟩ dX10_balance_45 dX10_balance_48 dX10_balance_49 dX10_balance_51 dX10_balance_54
