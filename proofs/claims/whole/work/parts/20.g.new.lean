theorem fl_set {fs : List Value} (k : Nat) (v : Value) (h : fs.length = 35) : (fs.set k v).length = 35 := List.length_set.trans h
section NX
variable {p : Program} {l : Launch} {e : Env} {R : Room} {s : State} {m : MethodId} {args : Array Value} {below : List Frame} {meth : Method} {c : Code} {H : Heap} {locs : List Loc} {cells slots pc : Nat} {Q : State → Prop} {ls : Array Slot} {rest : List Value} {A : Nat → Prop} {D : va_G} {tys TT : List (ClassId × FieldType)} {ws As : va_W} {a : Nat} {fs : List Value}
/-- a row of the model: newarray, putfield -/
theorem nx_arr {atype : ArrayType} {ty : FieldType} {n : Int32} {N' idx : Nat} {a0 : vp_A} (S : CallFix p m c cX11_init 2 s args wsL RX11) (hnm : meth.name = yX11_init.name) (hA : ∀ q, s.heap.size ≤ q → A q) (hK : va_K D vwCl (tys ++ TT) s) (hP : va_P D vwCl (ws ++ (a, .inr (12, fs)) :: As) H) (hD : va_D A (ws ++ (a, .inr (12, fs)) :: As)) (hS : va_S A s.heap H locs) (k : Nat) (hk : k < 35) (hfl : fs.length = 35)
    (harr : (Cond.arrayClass (newarray.typeOf atype)).before args s = true) (hty : newarray.typeOf atype = ty) (ha : ∀ cA : ClassId, vp_cell cA a0 = arrV cA N' (fun _ => defaultValue ty)) (hn : ¬ n < 0) (hN : n.toNatClampNeg = N') (hbytes : N' * componentBytes ty ≤ 536870912) (hcells : cells + 1 ≤ R.cells) (hslots : slots + N' ≤ R.slots)
    (hlink : (Cond.fieldLink RX11 idx "BookClubModel" (TX11 k).2.1 (TX11 k).2.2.1).before args s = true) (hfin : (TX11 k).2.2.2 = true) (hdecl : (TX11 k).1 = RX11) (hd : parseFieldDescriptor (TX11 k).2.2.1 = some (.array ty)) (href : "BookClubModel" = (TX11 k).1)
    (d1 : decode cX11_init pc = .ok (.newarray atype, 2)) (d2 : decode cX11_init (pc + 2) = .ok (.putfield idx, 3))
    (kq : ∀ (q : Nat) (cA : ClassId) (H1 : Heap) (locs1 : List Loc), va_K D vwCl (tys ++ (TT ++ [(cA, ty)])) s → va_P D vwCl (ws ++ (a, .inr (12, fs.set k (.ref q))) :: (As ++ [(q, .inl (cA, a0))])) H1 → va_D A (ws ++ (a, .inr (12, fs.set k (.ref q))) :: (As ++ [(q, .inl (cA, a0))])) → va_S A s.heap H1 locs1 → W p l e R s m args below meth c H1 locs1 (cells + 1) (slots + N') Q (F0 m (pc + 5) ls rest)) : W p l e R s m args below meth c H locs cells slots Q (F0 m pc ls (.int n :: .ref a :: rest)) := by
  refine va_newa (D := D) S.1 S.2.1 harr hty hK hP hD hS hA ha hn hN hbytes hcells hslots d1 (fun q cA H hK hP hD hS => ?_)
  have hP : va_P D vwCl (ws ++ (a, .inr (12, fs)) :: (As ++ [(q, .inl (cA, a0))])) H := nP hP
  have hD : va_D A (ws ++ (a, .inr (12, fs)) :: (As ++ [(q, .inl (cA, a0))])) := nD hD
  refine va_putF (D := D) (ci := 12) (v := .ref q) (ty := .array ty) (C := RX11) (T := TX11) (N := 35) S.1 S.2.1 S.2.2.2.2 inX11 tyX11 tyX11_ok nmX11 S.2.2.2.1 hK hP hD hS (ws.length + 0) (tl_at ws _ 0 rfl) rfl k hk hlink (fun x h => by rw [href]; exact h) hfin hnm hdecl hd rfl rfl (by rw [hfl]; exact hk) d2 (fun H locs hP hD hS => ?_)
  exact kq q cA H locs (nK hK) (nSP hP) (nSD hD) hS
theorem nx_at {x : Nat × va_E} {y : Nat × va_E} : (ws ++ x :: (As ++ [y]))[ws.length + (1 + As.length)]? = some y := by
  refine tl_at ws _ _ ?_
  rw [Nat.add_comm, List.getElem?_cons_succ, List.getElem?_append_right (Nat.le_refl _), Nat.sub_self]
  rfl
theorem nx_set {x y z : Nat × va_E} : (ws ++ x :: (As ++ [y])).set (ws.length + (1 + As.length)) z = ws ++ x :: (As ++ [z]) := by
  rw [tl_set, Nat.add_comm, List.set_cons_succ, List.set_append_right _ _ (Nat.le_refl _), Nat.sub_self]
  rfl
set_option maxHeartbeats 4000000 in
/-- the four chances: {50, 50, 50, 50} -/
theorem nx_50 (S : CallFix p m c cX11_init 2 s args wsL RX11) (hnm : meth.name = yX11_init.name) (hA : ∀ q, s.heap.size ≤ q → A q) (hK : va_K D vwCl (tys ++ TT) s) (hP : va_P D vwCl (ws ++ (a, .inr (12, fs)) :: As) H) (hD : va_D A (ws ++ (a, .inr (12, fs)) :: As)) (hS : va_S A s.heap H locs) (hfl : fs.length = 35) (hcells : cells + 1 ≤ R.cells) (hslots : slots + 4 ≤ R.slots)
    (kq : ∀ (q : Nat) (cA : ClassId) (H1 : Heap) (locs1 : List Loc), va_K D vwCl (tys ++ (TT ++ [(cA, .int)])) s → va_P D vwCl (ws ++ (a, .inr (12, fs.set 28 (.ref q))) :: (As ++ [(q, .inl (cA, 4, .inl (upd (upd (upd (upd (fun _ => 0) 0 50) 1 50) 2 50) 3 50)))])) H1 → va_D A (ws ++ (a, .inr (12, fs.set 28 (.ref q))) :: (As ++ [(q, .inl (cA, 4, .inl (upd (upd (upd (upd (fun _ => 0) 0 50) 1 50) 2 50) 3 50)))])) → va_S A s.heap H1 locs1 → W p l e R s m args below meth c H1 locs1 (cells + 1) (slots + 4) Q (F0 m 206 ls rest)) : W p l e R s m args below meth c H locs cells slots Q (F0 m 181 ls (.int 4 :: .ref a :: rest)) := by
  refine va_newa (D := D) (atype := .int) S.1 S.2.1 (S.2.2.2.2 _ m_41) rfl hK hP hD hS hA (N' := 4) (a0 := (4, .inl (fun _ => 0))) (fun _ => rfl) (by decide) (by decide) (Nat.le_of_ble_eq_true rfl) hcells hslots dX11_init_181 (fun q cA H hK hP hD hS => ?_)
  have hP : va_P D vwCl (ws ++ (a, .inr (12, fs)) :: (As ++ [(q, .inl (cA, 4, .inl (fun _ => 0)))])) H := nP hP
  have hD : va_D A (ws ++ (a, .inr (12, fs)) :: (As ++ [(q, .inl (cA, 4, .inl (fun _ => 0)))])) := nD hD
  have ht : (tys ++ TT ++ [(cA, FieldType.int)])[(tys ++ TT).length]? = some (cA, .int) := by rw [List.getElem?_append_right (Nat.le_refl _), Nat.sub_self]; rfl
  refine lv_dup S.1 S.2.1 dX11_init_183 rfl ?_
  refine lv_iconst (v := (0 : Int32)) S.1 S.2.1 dX11_init_184 (by decide) ?_
  refine lv_bipush (v := (50 : Int32)) S.1 S.2.1 dX11_init_185 (by decide) ?_
  refine va_iast (D := D) S.1 S.2.1 hK hP hD hS (ws.length + (1 + As.length)) _ nx_at ht (i := nI 0) (x := 50) (nI_in (c := 0) (N := 4) (by decide) (by decide)) dX11_init_187 (fun H locs hP hD hS => ?_)
  rw [nx_set] at hP hD
  refine lv_dup S.1 S.2.1 dX11_init_188 rfl ?_
  refine lv_iconst (v := (1 : Int32)) S.1 S.2.1 dX11_init_189 (by decide) ?_
  refine lv_bipush (v := (50 : Int32)) S.1 S.2.1 dX11_init_190 (by decide) ?_
  refine va_iast (D := D) S.1 S.2.1 hK hP hD hS (ws.length + (1 + As.length)) _ nx_at ht (i := nI 1) (x := 50) (nI_in (c := 1) (N := 4) (by decide) (by decide)) dX11_init_192 (fun H locs hP hD hS => ?_)
  rw [nx_set] at hP hD
  refine lv_dup S.1 S.2.1 dX11_init_193 rfl ?_
  refine lv_iconst (v := (2 : Int32)) S.1 S.2.1 dX11_init_194 (by decide) ?_
  refine lv_bipush (v := (50 : Int32)) S.1 S.2.1 dX11_init_195 (by decide) ?_
  refine va_iast (D := D) S.1 S.2.1 hK hP hD hS (ws.length + (1 + As.length)) _ nx_at ht (i := nI 2) (x := 50) (nI_in (c := 2) (N := 4) (by decide) (by decide)) dX11_init_197 (fun H locs hP hD hS => ?_)
  rw [nx_set] at hP hD
  refine lv_dup S.1 S.2.1 dX11_init_198 rfl ?_
  refine lv_iconst (v := (3 : Int32)) S.1 S.2.1 dX11_init_199 (by decide) ?_
  refine lv_bipush (v := (50 : Int32)) S.1 S.2.1 dX11_init_200 (by decide) ?_
  refine va_iast (D := D) S.1 S.2.1 hK hP hD hS (ws.length + (1 + As.length)) _ nx_at ht (i := nI 3) (x := 50) (nI_in (c := 3) (N := 4) (by decide) (by decide)) dX11_init_202 (fun H locs hP hD hS => ?_)
  rw [nx_set] at hP hD
  refine va_putF (D := D) (ci := 12) (v := .ref q) (ty := .array .int) (C := RX11) (T := TX11) (N := 35) S.1 S.2.1 S.2.2.2.2 inX11 tyX11 tyX11_ok nmX11 S.2.2.2.1 hK hP hD hS (ws.length + 0) (tl_at ws _ 0 rfl) rfl 28 (by decide) (S.2.2.2.2 _ m_205) (fun x h => h) rfl hnm rfl (by decide +kernel) rfl rfl (by rw [hfl]; decide) dX11_init_203 (fun H locs hP hD hS => ?_)
  exact kq q cA H locs (nK hK) (nSP hP) (nSD hD) hS
end NX

set_option maxHeartbeats 4000000 in
theorem nl_1 {p : Program} {l : Launch} {e : Env} {R : Room} {s : State} {m : MethodId} {args : Array Value} {below : List Frame} {meth : Method} {c : Code} {cells slots : Nat} {Q : State → Prop} {A : Nat → Prop} {D : va_G} {tys : List (ClassId × FieldType)} {ws : va_W} {a qa k0 k t0 : Nat} {cA : ClassId} {f : Nat → Int32} {fs : List Value} (S : CallFix p m c cX11_init 2 s args wsL RX11) (hK : va_K D vwCl tys s) (h0 : ws[k0]? = some (a, .inr (12, fs))) (hv : fs[8]? = some (.ref qa)) (hk : ws[k]? = some (qa, .inl (cA, 10, .inl f))) (hne : k ≠ k0) (ht : tys[t0]? = some (cA, .int))
    (kq : ∀ (H : Heap) (locs : List Loc) (ls : Array Slot), lv_has ls 2 [(0, .ref a)] → va_P D vwCl (ws.set k (qa, .inl (cA, 10, .inl (flf f 10 2)))) H → va_D A (ws.set k (qa, .inl (cA, 10, .inl (flf f 10 2)))) → va_S A s.heap H locs → W p l e R s m args below meth c H locs cells slots Q (F0 m 245 ls [])) :
    ∀ (H : Heap) (locs : List Loc) (ls : Array Slot), lv_has ls 2 [(0, .ref a)] → va_P D vwCl ws H → va_D A ws → va_S A s.heap H locs → W p l e R s m args below meth c H locs cells slots Q (F0 m 224 ls []) := by
  intro H locs ls hl hP hD hS
  have hkl := (List.getElem?_eq_some_iff.mp hk).1
  refine lv_iconst (v := (0 : Int32)) S.1 S.2.1 dX11_init_224 (by decide) ?_
  refine lv_istore_n (lv' := [(1, .int (nI 0)), (0, .ref a)]) S.1 S.2.1 dX11_init_225 rfl hl (by decide) rfl (fun ls hl => ?_)
  have loop : ∀ (d i : Nat), 10 = i + d → ∀ (H : Heap) (locs : List Loc) (ls : Array Slot), lv_has ls 2 [(1, .int (nI i)), (0, .ref a)] → va_P D vwCl (ws.set k (qa, .inl (cA, 10, .inl (flf f i 2)))) H → va_D A (ws.set k (qa, .inl (cA, 10, .inl (flf f i 2)))) → va_S A s.heap H locs → W p l e R s m args below meth c H locs cells slots Q (F0 m 226 ls []) := by
    intro d
    induction d with
    | zero =>
      intro i hi H locs ls hl hP hD hS
      have hi : i = 10 := by omega
      subst hi
      refine lv_iload_n S.1 S.2.1 dX11_init_226 rfl (lv_at hl 0 rfl) ?_
      refine lv_bipush (v := nI 10) S.1 S.2.1 dX11_init_227 (by decide) ?_
      refine lv_icmp_ge (tgt := 245) S.1 S.2.1 dX11_init_229 (by decide) (fun _ => ?_) (fun hc => absurd (Int32.le_refl _) hc)
      exact kq H locs ls (lv_sub hl [1] rfl) hP hD hS
    | succ d ih =>
      intro i hi H locs ls hl hP hD hS
      have hlt : i < 10 := by omega
      refine lv_iload_n S.1 S.2.1 dX11_init_226 rfl (lv_at hl 0 rfl) ?_
      refine lv_bipush (v := nI 10) S.1 S.2.1 dX11_init_227 (by decide) ?_
      refine lv_icmp_ge (tgt := 245) S.1 S.2.1 dX11_init_229 (by decide) (fun hc => absurd hc (nI_ge hlt (by omega))) (fun _ => ?_)
      refine lv_aload_n S.1 S.2.1 dX11_init_232 rfl (lv_at hl 1 rfl) ?_
      refine va_get (D := D) (ci := 12) (v := .ref qa) (C := RX11) (T := TX11) (N := 35) S.1 S.2.1 S.2.2.2.2 inX11 S.2.2.2.1 hK hP k0 ((List.getElem?_set_ne hne).trans h0) rfl 8 (by decide) (S.2.2.2.2 _ m_188) (fun _ h => h) hv dX11_init_233 ?_
      refine lv_iload_n S.1 S.2.1 dX11_init_236 rfl (lv_at hl 0 rfl) ?_
      refine lv_iconst (v := (2 : Int32)) S.1 S.2.1 dX11_init_237 (by decide) ?_
      refine va_iast S.1 S.2.1 hK hP hD hS k t0 (List.getElem?_set_self hkl) ht (nI_in hlt (by omega)) dX11_init_238 (fun H locs hP hD hS => ?_)
      rw [List.set_set, nI_clamp (by omega), flf_s] at hP hD
      refine lv_iinc (v := nI (i + 1)) (lv' := [(1, .int (nI (i + 1))), (0, .ref a)]) S.1 S.2.1 dX11_init_239 hl (k := 0) rfl (nI_1 i) (by decide) rfl (fun ls hl => ?_)
      refine lv_goto (tgt := 226) S.1 S.2.1 dX11_init_242 (by decide) ?_
      exact ih (i + 1) (by omega) H locs ls hl hP hD hS
  have h1 : ws.set k (qa, .inl (cA, 10, .inl (flf f 0 2))) = ws := by
    rw [flf_0]
    exact List.ext_getElem? (fun i => by
      by_cases h : k = i
      · subst h; rw [List.getElem?_set_self hkl, hk]
      · rw [List.getElem?_set_ne h])
  exact loop 10 0 (by omega) _ _ ls hl (by rw [h1]; exact hP) (by rw [h1]; exact hD) hS

set_option maxHeartbeats 4000000 in
theorem nl_2 {p : Program} {l : Launch} {e : Env} {R : Room} {s : State} {m : MethodId} {args : Array Value} {below : List Frame} {meth : Method} {c : Code} {cells slots : Nat} {Q : State → Prop} {A : Nat → Prop} {D : va_G} {tys : List (ClassId × FieldType)} {ws : va_W} {a qa k0 k t0 : Nat} {cA : ClassId} {f : Nat → Int32} {fs : List Value} (S : CallFix p m c cX11_init 2 s args wsL RX11) (hK : va_K D vwCl tys s) (h0 : ws[k0]? = some (a, .inr (12, fs))) (hv : fs[29]? = some (.ref qa)) (hk : ws[k]? = some (qa, .inl (cA, 180, .inl f))) (hne : k ≠ k0) (ht : tys[t0]? = some (cA, .int))
    (kq : ∀ (H : Heap) (locs : List Loc) (ls : Array Slot), lv_has ls 2 [(0, .ref a)] → va_P D vwCl (ws.set k (qa, .inl (cA, 180, .inl (flf f 180 (-1))))) H → va_D A (ws.set k (qa, .inl (cA, 180, .inl (flf f 180 (-1))))) → va_S A s.heap H locs → W p l e R s m args below meth c H locs cells slots Q (F0 m 267 ls [])) :
    ∀ (H : Heap) (locs : List Loc) (ls : Array Slot), lv_has ls 2 [(0, .ref a)] → va_P D vwCl ws H → va_D A ws → va_S A s.heap H locs → W p l e R s m args below meth c H locs cells slots Q (F0 m 245 ls []) := by
  intro H locs ls hl hP hD hS
  have hkl := (List.getElem?_eq_some_iff.mp hk).1
  refine lv_iconst (v := (0 : Int32)) S.1 S.2.1 dX11_init_245 (by decide) ?_
  refine lv_istore_n (lv' := [(1, .int (nI 0)), (0, .ref a)]) S.1 S.2.1 dX11_init_246 rfl hl (by decide) rfl (fun ls hl => ?_)
  have loop : ∀ (d i : Nat), 180 = i + d → ∀ (H : Heap) (locs : List Loc) (ls : Array Slot), lv_has ls 2 [(1, .int (nI i)), (0, .ref a)] → va_P D vwCl (ws.set k (qa, .inl (cA, 180, .inl (flf f i (-1))))) H → va_D A (ws.set k (qa, .inl (cA, 180, .inl (flf f i (-1))))) → va_S A s.heap H locs → W p l e R s m args below meth c H locs cells slots Q (F0 m 247 ls []) := by
    intro d
    induction d with
    | zero =>
      intro i hi H locs ls hl hP hD hS
      have hi : i = 180 := by omega
      subst hi
      refine lv_iload_n S.1 S.2.1 dX11_init_247 rfl (lv_at hl 0 rfl) ?_
      refine lv_sipush (v := nI 180) S.1 S.2.1 dX11_init_248 (by decide) ?_
      refine lv_icmp_ge (tgt := 267) S.1 S.2.1 dX11_init_251 (by decide) (fun _ => ?_) (fun hc => absurd (Int32.le_refl _) hc)
      exact kq H locs ls (lv_sub hl [1] rfl) hP hD hS
    | succ d ih =>
      intro i hi H locs ls hl hP hD hS
      have hlt : i < 180 := by omega
      refine lv_iload_n S.1 S.2.1 dX11_init_247 rfl (lv_at hl 0 rfl) ?_
      refine lv_sipush (v := nI 180) S.1 S.2.1 dX11_init_248 (by decide) ?_
      refine lv_icmp_ge (tgt := 267) S.1 S.2.1 dX11_init_251 (by decide) (fun hc => absurd hc (nI_ge hlt (by omega))) (fun _ => ?_)
      refine lv_aload_n S.1 S.2.1 dX11_init_254 rfl (lv_at hl 1 rfl) ?_
      refine va_get (D := D) (ci := 12) (v := .ref qa) (C := RX11) (T := TX11) (N := 35) S.1 S.2.1 S.2.2.2.2 inX11 S.2.2.2.1 hK hP k0 ((List.getElem?_set_ne hne).trans h0) rfl 29 (by decide) (S.2.2.2.2 _ m_206) (fun _ h => h) hv dX11_init_255 ?_
      refine lv_iload_n S.1 S.2.1 dX11_init_258 rfl (lv_at hl 0 rfl) ?_
      refine lv_iconst (v := (-1 : Int32)) S.1 S.2.1 dX11_init_259 (by decide) ?_
      refine va_iast S.1 S.2.1 hK hP hD hS k t0 (List.getElem?_set_self hkl) ht (nI_in hlt (by omega)) dX11_init_260 (fun H locs hP hD hS => ?_)
      rw [List.set_set, nI_clamp (by omega), flf_s] at hP hD
      refine lv_iinc (v := nI (i + 1)) (lv' := [(1, .int (nI (i + 1))), (0, .ref a)]) S.1 S.2.1 dX11_init_261 hl (k := 0) rfl (nI_1 i) (by decide) rfl (fun ls hl => ?_)
      refine lv_goto (tgt := 247) S.1 S.2.1 dX11_init_264 (by decide) ?_
      exact ih (i + 1) (by omega) H locs ls hl hP hD hS
  have h1 : ws.set k (qa, .inl (cA, 180, .inl (flf f 0 (-1)))) = ws := by
    rw [flf_0]
    exact List.ext_getElem? (fun i => by
      by_cases h : k = i
      · subst h; rw [List.getElem?_set_self hkl, hk]
      · rw [List.getElem?_set_ne h])
  exact loop 180 0 (by omega) _ _ ls hl (by rw [h1]; exact hP) (by rw [h1]; exact hD) hS

set_option maxRecDepth 100000 in
set_option maxHeartbeats 4000000 in
theorem cN_X11 (l : Launch) (D : va_G) (tys : List (ClassId × FieldType)) (A : Nat → Prop) (kk : Nat → Nat) (w ws : va_W) {q : Nat} (hw : w = ws ++ [(q, .inr (12, ((.null) :: (.int 0) :: (.int 0) :: (.int 0) :: (.null) :: (.null) :: (.null) :: (.int 0) :: (.null) :: (.null) :: (.null) :: (.null) :: (.null) :: (.null) :: (.null) :: (.null) :: (.null) :: (.null) :: (.null) :: (.int 0) :: (.int 0) :: (.null) :: (.null) :: (.null) :: (.null) :: (.null) :: (.null) :: (.int 0) :: (.null) :: (.null) :: (.null) :: (.int 0) :: (.int 0) :: (.int 0) :: (.int 0) :: [])))]) : MvN l yX11_init cX11_init 2 { frames := 1, cells := 24, slots := 6112, locals := 20 } [.ref q] (GW D tys A kk w) (fun u t => GW D (tys ++ (((u.2.1 0), .int) :: ((u.2.1 1), .int) :: ((u.2.1 2), .int) :: ((u.2.1 3), .int) :: ((u.2.1 4), .int) :: ((u.2.1 5), .boolean) :: ((u.2.1 6), .int) :: ((u.2.1 7), .int) :: ((u.2.1 8), .int) :: ((u.2.1 9), .int) :: ((u.2.1 10), .int) :: ((u.2.1 11), .int) :: ((u.2.1 12), .boolean) :: ((u.2.1 13), .boolean) :: ((u.2.1 14), .boolean) :: ((u.2.1 15), .int) :: ((u.2.1 16), .int) :: ((u.2.1 17), .int) :: ((u.2.1 18), .int) :: ((u.2.1 19), .long) :: ((u.2.1 20), .int) :: ((u.2.1 21), .int) :: ((u.2.1 22), .int) :: ((u.2.1 23), .boolean) :: [])) A kk (ws ++ ((q, .inr (12, ((.ref (u.1 0)) :: (.int 0) :: (.int 0) :: (.int 0) :: (.ref (u.1 1)) :: (.ref (u.1 2)) :: (.ref (u.1 3)) :: (.int 0) :: (.ref (u.1 4)) :: (.ref (u.1 5)) :: (.ref (u.1 6)) :: (.ref (u.1 7)) :: (.ref (u.1 8)) :: (.ref (u.1 9)) :: (.ref (u.1 10)) :: (.ref (u.1 11)) :: (.ref (u.1 12)) :: (.ref (u.1 13)) :: (.ref (u.1 14)) :: (.int 0) :: (.int 0) :: (.ref (u.1 15)) :: (.ref (u.1 16)) :: (.ref (u.1 17)) :: (.ref (u.1 18)) :: (.ref (u.1 19)) :: (.ref (u.1 20)) :: (.int 0) :: (.ref (u.1 21)) :: (.ref (u.1 22)) :: (.ref (u.1 23)) :: (.int 0) :: (.int 0) :: (.int 0) :: (.int 0) :: []))) :: ((u.1 0), .inl ((u.2.1 0), 200, .inl (fun _ => 0))) :: ((u.1 1), .inl ((u.2.1 1), 60, .inl (fun _ => 0))) :: ((u.1 2), .inl ((u.2.1 2), 60, .inl (fun _ => 0))) :: ((u.1 3), .inl ((u.2.1 3), 60, .inl (fun _ => 0))) :: ((u.1 4), .inl ((u.2.1 4), 10, .inl (flf (fun _ => 0) 10 2))) :: ((u.1 5), .inl ((u.2.1 5), 10, .inl (fun _ => 0))) :: ((u.1 6), .inl ((u.2.1 6), 40, .inl (fun _ => 0))) :: ((u.1 7), .inl ((u.2.1 7), 40, .inl (fun _ => 0))) :: ((u.1 8), .inl ((u.2.1 8), 40, .inl (fun _ => 0))) :: ((u.1 9), .inl ((u.2.1 9), 40, .inl (fun _ => 0))) :: ((u.1 10), .inl ((u.2.1 10), 40, .inl (fun _ => 0))) :: ((u.1 11), .inl ((u.2.1 11), 40, .inl (fun _ => 0))) :: ((u.1 12), .inl ((u.2.1 12), 40, .inl (fun _ => 0))) :: ((u.1 13), .inl ((u.2.1 13), 40, .inl (fun _ => 0))) :: ((u.1 14), .inl ((u.2.1 14), 40, .inl (fun _ => 0))) :: ((u.1 15), .inl ((u.2.1 15), 488, .inl (fun _ => 0))) :: ((u.1 16), .inl ((u.2.1 16), 900, .inl (fun _ => 0))) :: ((u.1 17), .inl ((u.2.1 17), 900, .inl (fun _ => 0))) :: ((u.1 18), .inl ((u.2.1 18), 900, .inl (fun _ => 0))) :: ((u.1 19), .inl ((u.2.1 19), 900, .inr (.inl (fun _ => 0)))) :: ((u.1 20), .inl ((u.2.1 20), 900, .inl (fun _ => 0))) :: ((u.1 21), .inl ((u.2.1 21), 4, .inl (upd (upd (upd (upd (fun _ => 0) 0 50) 1 50) 2 50) 3 50))) :: ((u.1 22), .inl ((u.2.1 22), 180, .inl (flf (fun _ => 0) 180 (-1)))) :: ((u.1 23), .inl ((u.2.1 23), 180, .inl (fun _ => 0))) :: [])) t) A := by
  subst hw
  refine MvN.of (own := RX11) rfl (by decide +kernel) (Nat.le_of_ble_eq_true rfl) ?_
  intro p e s m args below meth c ls S hr hlk hG hl hnm
  obtain ⟨hP, hD, hK, hC, hN, hA⟩ := hG
  have hS : va_S A s.heap s.heap [] := va_S.rf
  have hl : lv_has ls 2 [(0, .ref q)] := hl
  refine lv_aload_n S.1 S.2.1 dX11_init_0 rfl (lv_at hl 0 rfl) ?_
  refine W.objInit S.1 S.2.1 S.2.2.2.1 (S.2.2.2.2 _ m_183) (S.2.2.2.2 _ m_11) (S.2.2.2.2 _ m_12) rfl (hl.1.trans S.2.2.1.symm) rfl dX11_init_1 (Nat.le_of_ble_eq_true rfl) (Nat.le_of_ble_eq_true rfl) ?_
  have hfl : (((.null) :: (.int 0) :: (.int 0) :: (.int 0) :: (.null) :: (.null) :: (.null) :: (.int 0) :: (.null) :: (.null) :: (.null) :: (.null) :: (.null) :: (.null) :: (.null) :: (.null) :: (.null) :: (.null) :: (.null) :: (.int 0) :: (.int 0) :: (.null) :: (.null) :: (.null) :: (.null) :: (.null) :: (.null) :: (.int 0) :: (.null) :: (.null) :: (.null) :: (.int 0) :: (.int 0) :: (.int 0) :: (.int 0) :: []) : List Value).length = 35 := rfl
  have hP : va_P D vwCl (ws ++ (q, .inr (12, ((.null) :: (.int 0) :: (.int 0) :: (.int 0) :: (.null) :: (.null) :: (.null) :: (.int 0) :: (.null) :: (.null) :: (.null) :: (.null) :: (.null) :: (.null) :: (.null) :: (.null) :: (.null) :: (.null) :: (.null) :: (.int 0) :: (.int 0) :: (.null) :: (.null) :: (.null) :: (.null) :: (.null) :: (.null) :: (.int 0) :: (.null) :: (.null) :: (.null) :: (.int 0) :: (.int 0) :: (.int 0) :: (.int 0) :: []))) :: []) s.heap := hP
  have hD : va_D A (ws ++ (q, .inr (12, ((.null) :: (.int 0) :: (.int 0) :: (.int 0) :: (.null) :: (.null) :: (.null) :: (.int 0) :: (.null) :: (.null) :: (.null) :: (.null) :: (.null) :: (.null) :: (.null) :: (.null) :: (.null) :: (.null) :: (.null) :: (.int 0) :: (.int 0) :: (.null) :: (.null) :: (.null) :: (.null) :: (.null) :: (.null) :: (.int 0) :: (.null) :: (.null) :: (.null) :: (.int 0) :: (.int 0) :: (.int 0) :: (.int 0) :: []))) :: []) := hD
  have hK : va_K D vwCl (tys ++ []) s := by rw [List.append_nil]; exact hK
  refine lv_aload_n S.1 S.2.1 dX11_init_4 rfl (lv_at hl 0 rfl) ?_
  refine lv_sipush (v := (200 : Int32)) S.1 S.2.1 dX11_init_5 (by decide) ?_
  refine nx_arr (atype := .int) (ty := .int) (N' := 200) (a0 := (200, .inl (fun _ => 0))) S hnm hA hK hP hD hS 0 (by decide) hfl (S.2.2.2.2 _ m_41) rfl (fun _ => rfl) (by decide) (by decide) (Nat.le_of_ble_eq_true rfl) (Nat.le_of_ble_eq_true rfl) (Nat.le_of_ble_eq_true rfl) (S.2.2.2.2 _ m_184) rfl rfl (by decide +kernel) rfl dX11_init_8 dX11_init_10 (fun q1 c1 H locs hK hP hD hS => ?_)
  have hfl := fl_set 0 (.ref q1) hfl
  refine lv_aload_n S.1 S.2.1 dX11_init_13 rfl (lv_at hl 0 rfl) ?_
  refine lv_bipush (v := (60 : Int32)) S.1 S.2.1 dX11_init_14 (by decide) ?_
  refine nx_arr (atype := .int) (ty := .int) (N' := 60) (a0 := (60, .inl (fun _ => 0))) S hnm hA hK hP hD hS 4 (by decide) hfl (S.2.2.2.2 _ m_41) rfl (fun _ => rfl) (by decide) (by decide) (Nat.le_of_ble_eq_true rfl) (Nat.le_of_ble_eq_true rfl) (Nat.le_of_ble_eq_true rfl) (S.2.2.2.2 _ m_185) rfl rfl (by decide +kernel) rfl dX11_init_16 dX11_init_18 (fun q2 c2 H locs hK hP hD hS => ?_)
  have hfl := fl_set 4 (.ref q2) hfl
  refine lv_aload_n S.1 S.2.1 dX11_init_21 rfl (lv_at hl 0 rfl) ?_
  refine lv_bipush (v := (60 : Int32)) S.1 S.2.1 dX11_init_22 (by decide) ?_
  refine nx_arr (atype := .int) (ty := .int) (N' := 60) (a0 := (60, .inl (fun _ => 0))) S hnm hA hK hP hD hS 5 (by decide) hfl (S.2.2.2.2 _ m_41) rfl (fun _ => rfl) (by decide) (by decide) (Nat.le_of_ble_eq_true rfl) (Nat.le_of_ble_eq_true rfl) (Nat.le_of_ble_eq_true rfl) (S.2.2.2.2 _ m_186) rfl rfl (by decide +kernel) rfl dX11_init_24 dX11_init_26 (fun q3 c3 H locs hK hP hD hS => ?_)
  have hfl := fl_set 5 (.ref q3) hfl
  refine lv_aload_n S.1 S.2.1 dX11_init_29 rfl (lv_at hl 0 rfl) ?_
  refine lv_bipush (v := (60 : Int32)) S.1 S.2.1 dX11_init_30 (by decide) ?_
  refine nx_arr (atype := .int) (ty := .int) (N' := 60) (a0 := (60, .inl (fun _ => 0))) S hnm hA hK hP hD hS 6 (by decide) hfl (S.2.2.2.2 _ m_41) rfl (fun _ => rfl) (by decide) (by decide) (Nat.le_of_ble_eq_true rfl) (Nat.le_of_ble_eq_true rfl) (Nat.le_of_ble_eq_true rfl) (S.2.2.2.2 _ m_187) rfl rfl (by decide +kernel) rfl dX11_init_32 dX11_init_34 (fun q4 c4 H locs hK hP hD hS => ?_)
  have hfl := fl_set 6 (.ref q4) hfl
  refine lv_aload_n S.1 S.2.1 dX11_init_37 rfl (lv_at hl 0 rfl) ?_
  refine lv_bipush (v := (10 : Int32)) S.1 S.2.1 dX11_init_38 (by decide) ?_
  refine nx_arr (atype := .int) (ty := .int) (N' := 10) (a0 := (10, .inl (fun _ => 0))) S hnm hA hK hP hD hS 8 (by decide) hfl (S.2.2.2.2 _ m_41) rfl (fun _ => rfl) (by decide) (by decide) (Nat.le_of_ble_eq_true rfl) (Nat.le_of_ble_eq_true rfl) (Nat.le_of_ble_eq_true rfl) (S.2.2.2.2 _ m_188) rfl rfl (by decide +kernel) rfl dX11_init_40 dX11_init_42 (fun q5 c5 H locs hK hP hD hS => ?_)
  have hfl := fl_set 8 (.ref q5) hfl
  refine lv_aload_n S.1 S.2.1 dX11_init_45 rfl (lv_at hl 0 rfl) ?_
  refine lv_bipush (v := (10 : Int32)) S.1 S.2.1 dX11_init_46 (by decide) ?_
  refine nx_arr (atype := .boolean) (ty := .boolean) (N' := 10) (a0 := (10, .inl (fun _ => 0))) S hnm hA hK hP hD hS 9 (by decide) hfl (S.2.2.2.2 _ m_68) rfl (fun _ => rfl) (by decide) (by decide) (Nat.le_of_ble_eq_true rfl) (Nat.le_of_ble_eq_true rfl) (Nat.le_of_ble_eq_true rfl) (S.2.2.2.2 _ m_189) rfl rfl (by decide +kernel) rfl dX11_init_48 dX11_init_50 (fun q6 c6 H locs hK hP hD hS => ?_)
  have hfl := fl_set 9 (.ref q6) hfl
  refine lv_aload_n S.1 S.2.1 dX11_init_53 rfl (lv_at hl 0 rfl) ?_
  refine lv_bipush (v := (40 : Int32)) S.1 S.2.1 dX11_init_54 (by decide) ?_
  refine nx_arr (atype := .int) (ty := .int) (N' := 40) (a0 := (40, .inl (fun _ => 0))) S hnm hA hK hP hD hS 10 (by decide) hfl (S.2.2.2.2 _ m_41) rfl (fun _ => rfl) (by decide) (by decide) (Nat.le_of_ble_eq_true rfl) (Nat.le_of_ble_eq_true rfl) (Nat.le_of_ble_eq_true rfl) (S.2.2.2.2 _ m_190) rfl rfl (by decide +kernel) rfl dX11_init_56 dX11_init_58 (fun q7 c7 H locs hK hP hD hS => ?_)
  have hfl := fl_set 10 (.ref q7) hfl
  refine lv_aload_n S.1 S.2.1 dX11_init_61 rfl (lv_at hl 0 rfl) ?_
  refine lv_bipush (v := (40 : Int32)) S.1 S.2.1 dX11_init_62 (by decide) ?_
  refine nx_arr (atype := .int) (ty := .int) (N' := 40) (a0 := (40, .inl (fun _ => 0))) S hnm hA hK hP hD hS 11 (by decide) hfl (S.2.2.2.2 _ m_41) rfl (fun _ => rfl) (by decide) (by decide) (Nat.le_of_ble_eq_true rfl) (Nat.le_of_ble_eq_true rfl) (Nat.le_of_ble_eq_true rfl) (S.2.2.2.2 _ m_191) rfl rfl (by decide +kernel) rfl dX11_init_64 dX11_init_66 (fun q8 c8 H locs hK hP hD hS => ?_)
  have hfl := fl_set 11 (.ref q8) hfl
  refine lv_aload_n S.1 S.2.1 dX11_init_69 rfl (lv_at hl 0 rfl) ?_
  refine lv_bipush (v := (40 : Int32)) S.1 S.2.1 dX11_init_70 (by decide) ?_
  refine nx_arr (atype := .int) (ty := .int) (N' := 40) (a0 := (40, .inl (fun _ => 0))) S hnm hA hK hP hD hS 12 (by decide) hfl (S.2.2.2.2 _ m_41) rfl (fun _ => rfl) (by decide) (by decide) (Nat.le_of_ble_eq_true rfl) (Nat.le_of_ble_eq_true rfl) (Nat.le_of_ble_eq_true rfl) (S.2.2.2.2 _ m_192) rfl rfl (by decide +kernel) rfl dX11_init_72 dX11_init_74 (fun q9 c9 H locs hK hP hD hS => ?_)
  have hfl := fl_set 12 (.ref q9) hfl
  refine lv_aload_n S.1 S.2.1 dX11_init_77 rfl (lv_at hl 0 rfl) ?_
  refine lv_bipush (v := (40 : Int32)) S.1 S.2.1 dX11_init_78 (by decide) ?_
  refine nx_arr (atype := .int) (ty := .int) (N' := 40) (a0 := (40, .inl (fun _ => 0))) S hnm hA hK hP hD hS 13 (by decide) hfl (S.2.2.2.2 _ m_41) rfl (fun _ => rfl) (by decide) (by decide) (Nat.le_of_ble_eq_true rfl) (Nat.le_of_ble_eq_true rfl) (Nat.le_of_ble_eq_true rfl) (S.2.2.2.2 _ m_193) rfl rfl (by decide +kernel) rfl dX11_init_80 dX11_init_82 (fun q10 c10 H locs hK hP hD hS => ?_)
  have hfl := fl_set 13 (.ref q10) hfl
  refine lv_aload_n S.1 S.2.1 dX11_init_85 rfl (lv_at hl 0 rfl) ?_
  refine lv_bipush (v := (40 : Int32)) S.1 S.2.1 dX11_init_86 (by decide) ?_
  refine nx_arr (atype := .int) (ty := .int) (N' := 40) (a0 := (40, .inl (fun _ => 0))) S hnm hA hK hP hD hS 14 (by decide) hfl (S.2.2.2.2 _ m_41) rfl (fun _ => rfl) (by decide) (by decide) (Nat.le_of_ble_eq_true rfl) (Nat.le_of_ble_eq_true rfl) (Nat.le_of_ble_eq_true rfl) (S.2.2.2.2 _ m_194) rfl rfl (by decide +kernel) rfl dX11_init_88 dX11_init_90 (fun q11 c11 H locs hK hP hD hS => ?_)
  have hfl := fl_set 14 (.ref q11) hfl
  refine lv_aload_n S.1 S.2.1 dX11_init_93 rfl (lv_at hl 0 rfl) ?_
  refine lv_bipush (v := (40 : Int32)) S.1 S.2.1 dX11_init_94 (by decide) ?_
  refine nx_arr (atype := .int) (ty := .int) (N' := 40) (a0 := (40, .inl (fun _ => 0))) S hnm hA hK hP hD hS 15 (by decide) hfl (S.2.2.2.2 _ m_41) rfl (fun _ => rfl) (by decide) (by decide) (Nat.le_of_ble_eq_true rfl) (Nat.le_of_ble_eq_true rfl) (Nat.le_of_ble_eq_true rfl) (S.2.2.2.2 _ m_195) rfl rfl (by decide +kernel) rfl dX11_init_96 dX11_init_98 (fun q12 c12 H locs hK hP hD hS => ?_)
  have hfl := fl_set 15 (.ref q12) hfl
  refine lv_aload_n S.1 S.2.1 dX11_init_101 rfl (lv_at hl 0 rfl) ?_
  refine lv_bipush (v := (40 : Int32)) S.1 S.2.1 dX11_init_102 (by decide) ?_
  refine nx_arr (atype := .boolean) (ty := .boolean) (N' := 40) (a0 := (40, .inl (fun _ => 0))) S hnm hA hK hP hD hS 16 (by decide) hfl (S.2.2.2.2 _ m_68) rfl (fun _ => rfl) (by decide) (by decide) (Nat.le_of_ble_eq_true rfl) (Nat.le_of_ble_eq_true rfl) (Nat.le_of_ble_eq_true rfl) (S.2.2.2.2 _ m_196) rfl rfl (by decide +kernel) rfl dX11_init_104 dX11_init_106 (fun q13 c13 H locs hK hP hD hS => ?_)
  have hfl := fl_set 16 (.ref q13) hfl
  refine lv_aload_n S.1 S.2.1 dX11_init_109 rfl (lv_at hl 0 rfl) ?_
  refine lv_bipush (v := (40 : Int32)) S.1 S.2.1 dX11_init_110 (by decide) ?_
  refine nx_arr (atype := .boolean) (ty := .boolean) (N' := 40) (a0 := (40, .inl (fun _ => 0))) S hnm hA hK hP hD hS 17 (by decide) hfl (S.2.2.2.2 _ m_68) rfl (fun _ => rfl) (by decide) (by decide) (Nat.le_of_ble_eq_true rfl) (Nat.le_of_ble_eq_true rfl) (Nat.le_of_ble_eq_true rfl) (S.2.2.2.2 _ m_197) rfl rfl (by decide +kernel) rfl dX11_init_112 dX11_init_114 (fun q14 c14 H locs hK hP hD hS => ?_)
  have hfl := fl_set 17 (.ref q14) hfl
  refine lv_aload_n S.1 S.2.1 dX11_init_117 rfl (lv_at hl 0 rfl) ?_
  refine lv_bipush (v := (40 : Int32)) S.1 S.2.1 dX11_init_118 (by decide) ?_
  refine nx_arr (atype := .boolean) (ty := .boolean) (N' := 40) (a0 := (40, .inl (fun _ => 0))) S hnm hA hK hP hD hS 18 (by decide) hfl (S.2.2.2.2 _ m_68) rfl (fun _ => rfl) (by decide) (by decide) (Nat.le_of_ble_eq_true rfl) (Nat.le_of_ble_eq_true rfl) (Nat.le_of_ble_eq_true rfl) (S.2.2.2.2 _ m_198) rfl rfl (by decide +kernel) rfl dX11_init_120 dX11_init_122 (fun q15 c15 H locs hK hP hD hS => ?_)
  have hfl := fl_set 18 (.ref q15) hfl
  refine lv_aload_n S.1 S.2.1 dX11_init_125 rfl (lv_at hl 0 rfl) ?_
  refine lv_sipush (v := (488 : Int32)) S.1 S.2.1 dX11_init_126 (by decide) ?_
  refine nx_arr (atype := .int) (ty := .int) (N' := 488) (a0 := (488, .inl (fun _ => 0))) S hnm hA hK hP hD hS 21 (by decide) hfl (S.2.2.2.2 _ m_41) rfl (fun _ => rfl) (by decide) (by decide) (Nat.le_of_ble_eq_true rfl) (Nat.le_of_ble_eq_true rfl) (Nat.le_of_ble_eq_true rfl) (S.2.2.2.2 _ m_199) rfl rfl (by decide +kernel) rfl dX11_init_129 dX11_init_131 (fun q16 c16 H locs hK hP hD hS => ?_)
  have hfl := fl_set 21 (.ref q16) hfl
  refine lv_aload_n S.1 S.2.1 dX11_init_134 rfl (lv_at hl 0 rfl) ?_
  refine lv_sipush (v := (900 : Int32)) S.1 S.2.1 dX11_init_135 (by decide) ?_
  refine nx_arr (atype := .int) (ty := .int) (N' := 900) (a0 := (900, .inl (fun _ => 0))) S hnm hA hK hP hD hS 22 (by decide) hfl (S.2.2.2.2 _ m_41) rfl (fun _ => rfl) (by decide) (by decide) (Nat.le_of_ble_eq_true rfl) (Nat.le_of_ble_eq_true rfl) (Nat.le_of_ble_eq_true rfl) (S.2.2.2.2 _ m_200) rfl rfl (by decide +kernel) rfl dX11_init_138 dX11_init_140 (fun q17 c17 H locs hK hP hD hS => ?_)
  have hfl := fl_set 22 (.ref q17) hfl
  refine lv_aload_n S.1 S.2.1 dX11_init_143 rfl (lv_at hl 0 rfl) ?_
  refine lv_sipush (v := (900 : Int32)) S.1 S.2.1 dX11_init_144 (by decide) ?_
  refine nx_arr (atype := .int) (ty := .int) (N' := 900) (a0 := (900, .inl (fun _ => 0))) S hnm hA hK hP hD hS 23 (by decide) hfl (S.2.2.2.2 _ m_41) rfl (fun _ => rfl) (by decide) (by decide) (Nat.le_of_ble_eq_true rfl) (Nat.le_of_ble_eq_true rfl) (Nat.le_of_ble_eq_true rfl) (S.2.2.2.2 _ m_201) rfl rfl (by decide +kernel) rfl dX11_init_147 dX11_init_149 (fun q18 c18 H locs hK hP hD hS => ?_)
  have hfl := fl_set 23 (.ref q18) hfl
  refine lv_aload_n S.1 S.2.1 dX11_init_152 rfl (lv_at hl 0 rfl) ?_
  refine lv_sipush (v := (900 : Int32)) S.1 S.2.1 dX11_init_153 (by decide) ?_
  refine nx_arr (atype := .int) (ty := .int) (N' := 900) (a0 := (900, .inl (fun _ => 0))) S hnm hA hK hP hD hS 24 (by decide) hfl (S.2.2.2.2 _ m_41) rfl (fun _ => rfl) (by decide) (by decide) (Nat.le_of_ble_eq_true rfl) (Nat.le_of_ble_eq_true rfl) (Nat.le_of_ble_eq_true rfl) (S.2.2.2.2 _ m_202) rfl rfl (by decide +kernel) rfl dX11_init_156 dX11_init_158 (fun q19 c19 H locs hK hP hD hS => ?_)
  have hfl := fl_set 24 (.ref q19) hfl
  refine lv_aload_n S.1 S.2.1 dX11_init_161 rfl (lv_at hl 0 rfl) ?_
  refine lv_sipush (v := (900 : Int32)) S.1 S.2.1 dX11_init_162 (by decide) ?_
  refine nx_arr (atype := .long) (ty := .long) (N' := 900) (a0 := (900, .inr (.inl (fun _ => 0)))) S hnm hA hK hP hD hS 25 (by decide) hfl (S.2.2.2.2 _ m_6) rfl (fun _ => rfl) (by decide) (by decide) (Nat.le_of_ble_eq_true rfl) (Nat.le_of_ble_eq_true rfl) (Nat.le_of_ble_eq_true rfl) (S.2.2.2.2 _ m_203) rfl rfl (by decide +kernel) rfl dX11_init_165 dX11_init_167 (fun q20 c20 H locs hK hP hD hS => ?_)
  have hfl := fl_set 25 (.ref q20) hfl
  refine lv_aload_n S.1 S.2.1 dX11_init_170 rfl (lv_at hl 0 rfl) ?_
  refine lv_sipush (v := (900 : Int32)) S.1 S.2.1 dX11_init_171 (by decide) ?_
  refine nx_arr (atype := .int) (ty := .int) (N' := 900) (a0 := (900, .inl (fun _ => 0))) S hnm hA hK hP hD hS 26 (by decide) hfl (S.2.2.2.2 _ m_41) rfl (fun _ => rfl) (by decide) (by decide) (Nat.le_of_ble_eq_true rfl) (Nat.le_of_ble_eq_true rfl) (Nat.le_of_ble_eq_true rfl) (S.2.2.2.2 _ m_204) rfl rfl (by decide +kernel) rfl dX11_init_174 dX11_init_176 (fun q21 c21 H locs hK hP hD hS => ?_)
  have hfl := fl_set 26 (.ref q21) hfl
  refine lv_aload_n S.1 S.2.1 dX11_init_179 rfl (lv_at hl 0 rfl) ?_
  refine lv_iconst (v := (4 : Int32)) S.1 S.2.1 dX11_init_180 (by decide) ?_
  refine nx_50 S hnm hA hK hP hD hS hfl (Nat.le_of_ble_eq_true rfl) (Nat.le_of_ble_eq_true rfl) (fun q22 c22 H locs hK hP hD hS => ?_)
  have hfl := fl_set 28 (.ref q22) hfl
  refine lv_aload_n S.1 S.2.1 dX11_init_206 rfl (lv_at hl 0 rfl) ?_
  refine lv_sipush (v := (180 : Int32)) S.1 S.2.1 dX11_init_207 (by decide) ?_
  refine nx_arr (atype := .int) (ty := .int) (N' := 180) (a0 := (180, .inl (fun _ => 0))) S hnm hA hK hP hD hS 29 (by decide) hfl (S.2.2.2.2 _ m_41) rfl (fun _ => rfl) (by decide) (by decide) (Nat.le_of_ble_eq_true rfl) (Nat.le_of_ble_eq_true rfl) (Nat.le_of_ble_eq_true rfl) (S.2.2.2.2 _ m_206) rfl rfl (by decide +kernel) rfl dX11_init_210 dX11_init_212 (fun q23 c23 H locs hK hP hD hS => ?_)
  have hfl := fl_set 29 (.ref q23) hfl
  refine lv_aload_n S.1 S.2.1 dX11_init_215 rfl (lv_at hl 0 rfl) ?_
  refine lv_sipush (v := (180 : Int32)) S.1 S.2.1 dX11_init_216 (by decide) ?_
  refine nx_arr (atype := .boolean) (ty := .boolean) (N' := 180) (a0 := (180, .inl (fun _ => 0))) S hnm hA hK hP hD hS 30 (by decide) hfl (S.2.2.2.2 _ m_68) rfl (fun _ => rfl) (by decide) (by decide) (Nat.le_of_ble_eq_true rfl) (Nat.le_of_ble_eq_true rfl) (Nat.le_of_ble_eq_true rfl) (S.2.2.2.2 _ m_207) rfl rfl (by decide +kernel) rfl dX11_init_219 dX11_init_221 (fun q24 c24 H locs hK hP hD hS => ?_)
  have hfl := fl_set 30 (.ref q24) hfl
  simp only [List.set_cons_succ, List.set_cons_zero, List.cons_append, List.nil_append] at hP hD hK
  have hP : va_P D vwCl (ws ++ ((q, .inr (12, ((.ref q1) :: (.int 0) :: (.int 0) :: (.int 0) :: (.ref q2) :: (.ref q3) :: (.ref q4) :: (.int 0) :: (.ref q5) :: (.ref q6) :: (.ref q7) :: (.ref q8) :: (.ref q9) :: (.ref q10) :: (.ref q11) :: (.ref q12) :: (.ref q13) :: (.ref q14) :: (.ref q15) :: (.int 0) :: (.int 0) :: (.ref q16) :: (.ref q17) :: (.ref q18) :: (.ref q19) :: (.ref q20) :: (.ref q21) :: (.int 0) :: (.ref q22) :: (.ref q23) :: (.ref q24) :: (.int 0) :: (.int 0) :: (.int 0) :: (.int 0) :: []))) :: (q1, .inl (c1, 200, .inl (fun _ => 0))) :: (q2, .inl (c2, 60, .inl (fun _ => 0))) :: (q3, .inl (c3, 60, .inl (fun _ => 0))) :: (q4, .inl (c4, 60, .inl (fun _ => 0))) :: (q5, .inl (c5, 10, .inl (fun _ => 0))) :: (q6, .inl (c6, 10, .inl (fun _ => 0))) :: (q7, .inl (c7, 40, .inl (fun _ => 0))) :: (q8, .inl (c8, 40, .inl (fun _ => 0))) :: (q9, .inl (c9, 40, .inl (fun _ => 0))) :: (q10, .inl (c10, 40, .inl (fun _ => 0))) :: (q11, .inl (c11, 40, .inl (fun _ => 0))) :: (q12, .inl (c12, 40, .inl (fun _ => 0))) :: (q13, .inl (c13, 40, .inl (fun _ => 0))) :: (q14, .inl (c14, 40, .inl (fun _ => 0))) :: (q15, .inl (c15, 40, .inl (fun _ => 0))) :: (q16, .inl (c16, 488, .inl (fun _ => 0))) :: (q17, .inl (c17, 900, .inl (fun _ => 0))) :: (q18, .inl (c18, 900, .inl (fun _ => 0))) :: (q19, .inl (c19, 900, .inl (fun _ => 0))) :: (q20, .inl (c20, 900, .inr (.inl (fun _ => 0)))) :: (q21, .inl (c21, 900, .inl (fun _ => 0))) :: (q22, .inl (c22, 4, .inl (upd (upd (upd (upd (fun _ => 0) 0 50) 1 50) 2 50) 3 50))) :: (q23, .inl (c23, 180, .inl (fun _ => 0))) :: (q24, .inl (c24, 180, .inl (fun _ => 0))) :: [])) H := hP
  have hD : va_D A (ws ++ ((q, .inr (12, ((.ref q1) :: (.int 0) :: (.int 0) :: (.int 0) :: (.ref q2) :: (.ref q3) :: (.ref q4) :: (.int 0) :: (.ref q5) :: (.ref q6) :: (.ref q7) :: (.ref q8) :: (.ref q9) :: (.ref q10) :: (.ref q11) :: (.ref q12) :: (.ref q13) :: (.ref q14) :: (.ref q15) :: (.int 0) :: (.int 0) :: (.ref q16) :: (.ref q17) :: (.ref q18) :: (.ref q19) :: (.ref q20) :: (.ref q21) :: (.int 0) :: (.ref q22) :: (.ref q23) :: (.ref q24) :: (.int 0) :: (.int 0) :: (.int 0) :: (.int 0) :: []))) :: (q1, .inl (c1, 200, .inl (fun _ => 0))) :: (q2, .inl (c2, 60, .inl (fun _ => 0))) :: (q3, .inl (c3, 60, .inl (fun _ => 0))) :: (q4, .inl (c4, 60, .inl (fun _ => 0))) :: (q5, .inl (c5, 10, .inl (fun _ => 0))) :: (q6, .inl (c6, 10, .inl (fun _ => 0))) :: (q7, .inl (c7, 40, .inl (fun _ => 0))) :: (q8, .inl (c8, 40, .inl (fun _ => 0))) :: (q9, .inl (c9, 40, .inl (fun _ => 0))) :: (q10, .inl (c10, 40, .inl (fun _ => 0))) :: (q11, .inl (c11, 40, .inl (fun _ => 0))) :: (q12, .inl (c12, 40, .inl (fun _ => 0))) :: (q13, .inl (c13, 40, .inl (fun _ => 0))) :: (q14, .inl (c14, 40, .inl (fun _ => 0))) :: (q15, .inl (c15, 40, .inl (fun _ => 0))) :: (q16, .inl (c16, 488, .inl (fun _ => 0))) :: (q17, .inl (c17, 900, .inl (fun _ => 0))) :: (q18, .inl (c18, 900, .inl (fun _ => 0))) :: (q19, .inl (c19, 900, .inl (fun _ => 0))) :: (q20, .inl (c20, 900, .inr (.inl (fun _ => 0)))) :: (q21, .inl (c21, 900, .inl (fun _ => 0))) :: (q22, .inl (c22, 4, .inl (upd (upd (upd (upd (fun _ => 0) 0 50) 1 50) 2 50) 3 50))) :: (q23, .inl (c23, 180, .inl (fun _ => 0))) :: (q24, .inl (c24, 180, .inl (fun _ => 0))) :: [])) := hD
  have hK : va_K D vwCl (tys ++ ((c1, .int) :: (c2, .int) :: (c3, .int) :: (c4, .int) :: (c5, .int) :: (c6, .boolean) :: (c7, .int) :: (c8, .int) :: (c9, .int) :: (c10, .int) :: (c11, .int) :: (c12, .int) :: (c13, .boolean) :: (c14, .boolean) :: (c15, .boolean) :: (c16, .int) :: (c17, .int) :: (c18, .int) :: (c19, .int) :: (c20, .long) :: (c21, .int) :: (c22, .int) :: (c23, .int) :: (c24, .boolean) :: [])) s := hK
  clear hfl
  refine nl_1 (k0 := ws.length + 0) (k := ws.length + 5) (t0 := tys.length + 4) S hK (tl_at ws _ 0 rfl) rfl (tl_at ws _ 5 rfl) (by omega) (tt_at tys _ 4 rfl) (fun H locs ls hl hP hD hS => ?_) _ _ ls hl hP hD hS
  have hP : va_P D vwCl (ws ++ ((q, .inr (12, ((.ref q1) :: (.int 0) :: (.int 0) :: (.int 0) :: (.ref q2) :: (.ref q3) :: (.ref q4) :: (.int 0) :: (.ref q5) :: (.ref q6) :: (.ref q7) :: (.ref q8) :: (.ref q9) :: (.ref q10) :: (.ref q11) :: (.ref q12) :: (.ref q13) :: (.ref q14) :: (.ref q15) :: (.int 0) :: (.int 0) :: (.ref q16) :: (.ref q17) :: (.ref q18) :: (.ref q19) :: (.ref q20) :: (.ref q21) :: (.int 0) :: (.ref q22) :: (.ref q23) :: (.ref q24) :: (.int 0) :: (.int 0) :: (.int 0) :: (.int 0) :: []))) :: (q1, .inl (c1, 200, .inl (fun _ => 0))) :: (q2, .inl (c2, 60, .inl (fun _ => 0))) :: (q3, .inl (c3, 60, .inl (fun _ => 0))) :: (q4, .inl (c4, 60, .inl (fun _ => 0))) :: (q5, .inl (c5, 10, .inl (flf (fun _ => 0) 10 2))) :: (q6, .inl (c6, 10, .inl (fun _ => 0))) :: (q7, .inl (c7, 40, .inl (fun _ => 0))) :: (q8, .inl (c8, 40, .inl (fun _ => 0))) :: (q9, .inl (c9, 40, .inl (fun _ => 0))) :: (q10, .inl (c10, 40, .inl (fun _ => 0))) :: (q11, .inl (c11, 40, .inl (fun _ => 0))) :: (q12, .inl (c12, 40, .inl (fun _ => 0))) :: (q13, .inl (c13, 40, .inl (fun _ => 0))) :: (q14, .inl (c14, 40, .inl (fun _ => 0))) :: (q15, .inl (c15, 40, .inl (fun _ => 0))) :: (q16, .inl (c16, 488, .inl (fun _ => 0))) :: (q17, .inl (c17, 900, .inl (fun _ => 0))) :: (q18, .inl (c18, 900, .inl (fun _ => 0))) :: (q19, .inl (c19, 900, .inl (fun _ => 0))) :: (q20, .inl (c20, 900, .inr (.inl (fun _ => 0)))) :: (q21, .inl (c21, 900, .inl (fun _ => 0))) :: (q22, .inl (c22, 4, .inl (upd (upd (upd (upd (fun _ => 0) 0 50) 1 50) 2 50) 3 50))) :: (q23, .inl (c23, 180, .inl (fun _ => 0))) :: (q24, .inl (c24, 180, .inl (fun _ => 0))) :: [])) H := nSP hP
  have hD : va_D A (ws ++ ((q, .inr (12, ((.ref q1) :: (.int 0) :: (.int 0) :: (.int 0) :: (.ref q2) :: (.ref q3) :: (.ref q4) :: (.int 0) :: (.ref q5) :: (.ref q6) :: (.ref q7) :: (.ref q8) :: (.ref q9) :: (.ref q10) :: (.ref q11) :: (.ref q12) :: (.ref q13) :: (.ref q14) :: (.ref q15) :: (.int 0) :: (.int 0) :: (.ref q16) :: (.ref q17) :: (.ref q18) :: (.ref q19) :: (.ref q20) :: (.ref q21) :: (.int 0) :: (.ref q22) :: (.ref q23) :: (.ref q24) :: (.int 0) :: (.int 0) :: (.int 0) :: (.int 0) :: []))) :: (q1, .inl (c1, 200, .inl (fun _ => 0))) :: (q2, .inl (c2, 60, .inl (fun _ => 0))) :: (q3, .inl (c3, 60, .inl (fun _ => 0))) :: (q4, .inl (c4, 60, .inl (fun _ => 0))) :: (q5, .inl (c5, 10, .inl (flf (fun _ => 0) 10 2))) :: (q6, .inl (c6, 10, .inl (fun _ => 0))) :: (q7, .inl (c7, 40, .inl (fun _ => 0))) :: (q8, .inl (c8, 40, .inl (fun _ => 0))) :: (q9, .inl (c9, 40, .inl (fun _ => 0))) :: (q10, .inl (c10, 40, .inl (fun _ => 0))) :: (q11, .inl (c11, 40, .inl (fun _ => 0))) :: (q12, .inl (c12, 40, .inl (fun _ => 0))) :: (q13, .inl (c13, 40, .inl (fun _ => 0))) :: (q14, .inl (c14, 40, .inl (fun _ => 0))) :: (q15, .inl (c15, 40, .inl (fun _ => 0))) :: (q16, .inl (c16, 488, .inl (fun _ => 0))) :: (q17, .inl (c17, 900, .inl (fun _ => 0))) :: (q18, .inl (c18, 900, .inl (fun _ => 0))) :: (q19, .inl (c19, 900, .inl (fun _ => 0))) :: (q20, .inl (c20, 900, .inr (.inl (fun _ => 0)))) :: (q21, .inl (c21, 900, .inl (fun _ => 0))) :: (q22, .inl (c22, 4, .inl (upd (upd (upd (upd (fun _ => 0) 0 50) 1 50) 2 50) 3 50))) :: (q23, .inl (c23, 180, .inl (fun _ => 0))) :: (q24, .inl (c24, 180, .inl (fun _ => 0))) :: [])) := nSD hD
  refine nl_2 (k0 := ws.length + 0) (k := ws.length + 23) (t0 := tys.length + 22) S hK (tl_at ws _ 0 rfl) rfl (tl_at ws _ 23 rfl) (by omega) (tt_at tys _ 22 rfl) (fun H locs ls hl hP hD hS => ?_) _ _ ls hl hP hD hS
  have hP : va_P D vwCl (ws ++ ((q, .inr (12, ((.ref q1) :: (.int 0) :: (.int 0) :: (.int 0) :: (.ref q2) :: (.ref q3) :: (.ref q4) :: (.int 0) :: (.ref q5) :: (.ref q6) :: (.ref q7) :: (.ref q8) :: (.ref q9) :: (.ref q10) :: (.ref q11) :: (.ref q12) :: (.ref q13) :: (.ref q14) :: (.ref q15) :: (.int 0) :: (.int 0) :: (.ref q16) :: (.ref q17) :: (.ref q18) :: (.ref q19) :: (.ref q20) :: (.ref q21) :: (.int 0) :: (.ref q22) :: (.ref q23) :: (.ref q24) :: (.int 0) :: (.int 0) :: (.int 0) :: (.int 0) :: []))) :: (q1, .inl (c1, 200, .inl (fun _ => 0))) :: (q2, .inl (c2, 60, .inl (fun _ => 0))) :: (q3, .inl (c3, 60, .inl (fun _ => 0))) :: (q4, .inl (c4, 60, .inl (fun _ => 0))) :: (q5, .inl (c5, 10, .inl (flf (fun _ => 0) 10 2))) :: (q6, .inl (c6, 10, .inl (fun _ => 0))) :: (q7, .inl (c7, 40, .inl (fun _ => 0))) :: (q8, .inl (c8, 40, .inl (fun _ => 0))) :: (q9, .inl (c9, 40, .inl (fun _ => 0))) :: (q10, .inl (c10, 40, .inl (fun _ => 0))) :: (q11, .inl (c11, 40, .inl (fun _ => 0))) :: (q12, .inl (c12, 40, .inl (fun _ => 0))) :: (q13, .inl (c13, 40, .inl (fun _ => 0))) :: (q14, .inl (c14, 40, .inl (fun _ => 0))) :: (q15, .inl (c15, 40, .inl (fun _ => 0))) :: (q16, .inl (c16, 488, .inl (fun _ => 0))) :: (q17, .inl (c17, 900, .inl (fun _ => 0))) :: (q18, .inl (c18, 900, .inl (fun _ => 0))) :: (q19, .inl (c19, 900, .inl (fun _ => 0))) :: (q20, .inl (c20, 900, .inr (.inl (fun _ => 0)))) :: (q21, .inl (c21, 900, .inl (fun _ => 0))) :: (q22, .inl (c22, 4, .inl (upd (upd (upd (upd (fun _ => 0) 0 50) 1 50) 2 50) 3 50))) :: (q23, .inl (c23, 180, .inl (flf (fun _ => 0) 180 (-1)))) :: (q24, .inl (c24, 180, .inl (fun _ => 0))) :: [])) H := nSP hP
  have hD : va_D A (ws ++ ((q, .inr (12, ((.ref q1) :: (.int 0) :: (.int 0) :: (.int 0) :: (.ref q2) :: (.ref q3) :: (.ref q4) :: (.int 0) :: (.ref q5) :: (.ref q6) :: (.ref q7) :: (.ref q8) :: (.ref q9) :: (.ref q10) :: (.ref q11) :: (.ref q12) :: (.ref q13) :: (.ref q14) :: (.ref q15) :: (.int 0) :: (.int 0) :: (.ref q16) :: (.ref q17) :: (.ref q18) :: (.ref q19) :: (.ref q20) :: (.ref q21) :: (.int 0) :: (.ref q22) :: (.ref q23) :: (.ref q24) :: (.int 0) :: (.int 0) :: (.int 0) :: (.int 0) :: []))) :: (q1, .inl (c1, 200, .inl (fun _ => 0))) :: (q2, .inl (c2, 60, .inl (fun _ => 0))) :: (q3, .inl (c3, 60, .inl (fun _ => 0))) :: (q4, .inl (c4, 60, .inl (fun _ => 0))) :: (q5, .inl (c5, 10, .inl (flf (fun _ => 0) 10 2))) :: (q6, .inl (c6, 10, .inl (fun _ => 0))) :: (q7, .inl (c7, 40, .inl (fun _ => 0))) :: (q8, .inl (c8, 40, .inl (fun _ => 0))) :: (q9, .inl (c9, 40, .inl (fun _ => 0))) :: (q10, .inl (c10, 40, .inl (fun _ => 0))) :: (q11, .inl (c11, 40, .inl (fun _ => 0))) :: (q12, .inl (c12, 40, .inl (fun _ => 0))) :: (q13, .inl (c13, 40, .inl (fun _ => 0))) :: (q14, .inl (c14, 40, .inl (fun _ => 0))) :: (q15, .inl (c15, 40, .inl (fun _ => 0))) :: (q16, .inl (c16, 488, .inl (fun _ => 0))) :: (q17, .inl (c17, 900, .inl (fun _ => 0))) :: (q18, .inl (c18, 900, .inl (fun _ => 0))) :: (q19, .inl (c19, 900, .inl (fun _ => 0))) :: (q20, .inl (c20, 900, .inr (.inl (fun _ => 0)))) :: (q21, .inl (c21, 900, .inl (fun _ => 0))) :: (q22, .inl (c22, 4, .inl (upd (upd (upd (upd (fun _ => 0) 0 50) 1 50) 2 50) 3 50))) :: (q23, .inl (c23, 180, .inl (flf (fun _ => 0) 180 (-1)))) :: (q24, .inl (c24, 180, .inl (fun _ => 0))) :: [])) := nSD hD
  exact W.vret S.1 S.2.1 hr (fun t ht hw => ⟨⟨(fun k => match k with | 0 => q1 | 1 => q2 | 2 => q3 | 3 => q4 | 4 => q5 | 5 => q6 | 6 => q7 | 7 => q8 | 8 => q9 | 9 => q10 | 10 => q11 | 11 => q12 | 12 => q13 | 13 => q14 | 14 => q15 | 15 => q16 | 16 => q17 | 17 => q18 | 18 => q19 | 19 => q20 | 20 => q21 | 21 => q22 | 22 => q23 | 23 => q24 | _ => 0, fun k => match k with | 0 => c1 | 1 => c2 | 2 => c3 | 3 => c4 | 4 => c5 | 5 => c6 | 6 => c7 | 7 => c8 | 8 => c9 | 9 => c10 | 10 => c11 | 11 => c12 | 12 => c13 | 13 => c14 | 14 => c15 | 15 => c16 | 16 => c17 | 17 => c18 | 18 => c19 | 19 => c20 | 20 => c21 | 21 => c22 | 22 => c23 | 23 => c24 | _ => 0, fun _ => none), rfl, trivial, GW.of hP hD hK hC hN hA hS ht hw⟩, hS.F ht⟩) hS.2.2 dX11_init_267 hlk

