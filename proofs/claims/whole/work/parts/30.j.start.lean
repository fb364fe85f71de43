/-! from the law's first step to the loop -/
def CTw (u : UN) : List (ClassId × FieldType) := [((u.2.1 0), .int), ((u.2.1 1), .int), ((u.2.1 2), .int), ((u.2.1 3), .int), ((u.2.1 4), .int), ((u.2.1 5), .boolean), ((u.2.1 6), .int), ((u.2.1 7), .long), ((u.2.1 8), .int), ((u.2.1 9), .boolean), ((u.2.1 10), .int)]
def CLw (kk : Nat → Nat) (cO : ClassId) (q : Nat) (u : UN) : va_W := ((q, .inr (11, [.ref (u.1 0), .ref (u.1 2), .ref (u.1 6), .ref (u.1 7), .ref (u.1 16), .ref (u.1 19)])) :: ((u.1 0), .inr (9, [.ref (u.1 1), .int (0)])) :: ((u.1 1), .inl ((u.2.1 0), 200, .inl (fun _ => 0))) :: ((u.1 2), .inr (8, [.ref (u.1 3), .ref (u.1 4), .ref (u.1 5), .int (0), .int (0)])) :: ((u.1 3), .inl ((u.2.1 1), 60, .inl (fun _ => 0))) :: ((u.1 4), .inl ((u.2.1 2), 60, .inl (fun _ => 0))) :: ((u.1 5), .inl ((u.2.1 3), 60, .inl (fun _ => 0))) :: ((u.1 6), .inr (10, [.ref (u.1 0), .ref (u.1 2), .int (0), .int (0), .int (0)])) :: ((u.1 7), .inr (3, [.ref (u.1 2), .ref (u.1 8), .ref (u.1 9), .ref (u.1 10), .ref (u.1 11), .ref (u.1 12), .ref (u.1 14), .int (0)])) :: ((u.1 8), .inl ((u.2.1 4), 10, .inl (flf (fun _ => 0) 10 (2)))) :: ((u.1 9), .inl ((u.2.1 5), 10, .inl (fun _ => 0))) :: ((u.1 10), .inr (0, [.int (0), .ref (kk 41), .int 0])) :: ((u.1 11), .inr (0, [.int (0 + 1), .ref (u.1 15), .int (nI (0 + 1))])) :: ((u.1 12), .inr (6, [.ref (u.1 13)])) :: ((u.1 13), .inr (0, [.int (0), .ref (kk 41), .int 0])) :: ((u.1 14), .inr (2, [.int 0, .int 0, .int 0, .int 0, .int 0, .int 0, .int 0, .int 0])) :: ((u.1 15), .inl (cO, (capOf (0 + 1)), .inr (.inr (.inr (.inr ((u.2.2))))))) :: ((u.1 16), .inr (1, [.ref (u.1 17), .ref (u.1 18)])) :: ((u.1 17), .inl ((u.2.1 6), 4, .inl (flf (fun _ => 0) 4 (50)))) :: ((u.1 18), .inl ((u.2.1 7), 9, .inr (.inl (fun _ => 0)))) :: ((u.1 19), .inr (5, [.ref (u.1 20), .ref (u.1 21), .ref (u.1 22)])) :: ((u.1 20), .inl ((u.2.1 8), 180, .inl (flf (fun _ => 0) 180 (-1)))) :: ((u.1 21), .inl ((u.2.1 9), 180, .inl (fun _ => 0))) :: ((u.1 22), .inl ((u.2.1 10), 11, .inl (fun _ => 0))) :: [])
def MTw (u : UN) : List (ClassId × FieldType) := (((u.2.1 0), .int) :: ((u.2.1 1), .int) :: ((u.2.1 2), .int) :: ((u.2.1 3), .int) :: ((u.2.1 4), .int) :: ((u.2.1 5), .boolean) :: ((u.2.1 6), .int) :: ((u.2.1 7), .int) :: ((u.2.1 8), .int) :: ((u.2.1 9), .int) :: ((u.2.1 10), .int) :: ((u.2.1 11), .int) :: ((u.2.1 12), .boolean) :: ((u.2.1 13), .boolean) :: ((u.2.1 14), .boolean) :: ((u.2.1 15), .int) :: ((u.2.1 16), .int) :: ((u.2.1 17), .int) :: ((u.2.1 18), .int) :: ((u.2.1 19), .long) :: ((u.2.1 20), .int) :: ((u.2.1 21), .int) :: ((u.2.1 22), .int) :: ((u.2.1 23), .boolean) :: [])
def MLw (q : Nat) (u : UN) : va_W := ((q, .inr (12, ((.ref (u.1 0)) :: (.int 0) :: (.int 0) :: (.int 0) :: (.ref (u.1 1)) :: (.ref (u.1 2)) :: (.ref (u.1 3)) :: (.int 0) :: (.ref (u.1 4)) :: (.ref (u.1 5)) :: (.ref (u.1 6)) :: (.ref (u.1 7)) :: (.ref (u.1 8)) :: (.ref (u.1 9)) :: (.ref (u.1 10)) :: (.ref (u.1 11)) :: (.ref (u.1 12)) :: (.ref (u.1 13)) :: (.ref (u.1 14)) :: (.int 0) :: (.int 0) :: (.ref (u.1 15)) :: (.ref (u.1 16)) :: (.ref (u.1 17)) :: (.ref (u.1 18)) :: (.ref (u.1 19)) :: (.ref (u.1 20)) :: (.int 0) :: (.ref (u.1 21)) :: (.ref (u.1 22)) :: (.ref (u.1 23)) :: (.int 0) :: (.int 0) :: (.int 0) :: (.int 0) :: []))) :: ((u.1 0), .inl ((u.2.1 0), 200, .inl (fun _ => 0))) :: ((u.1 1), .inl ((u.2.1 1), 60, .inl (fun _ => 0))) :: ((u.1 2), .inl ((u.2.1 2), 60, .inl (fun _ => 0))) :: ((u.1 3), .inl ((u.2.1 3), 60, .inl (fun _ => 0))) :: ((u.1 4), .inl ((u.2.1 4), 10, .inl (flf (fun _ => 0) 10 2))) :: ((u.1 5), .inl ((u.2.1 5), 10, .inl (fun _ => 0))) :: ((u.1 6), .inl ((u.2.1 6), 40, .inl (fun _ => 0))) :: ((u.1 7), .inl ((u.2.1 7), 40, .inl (fun _ => 0))) :: ((u.1 8), .inl ((u.2.1 8), 40, .inl (fun _ => 0))) :: ((u.1 9), .inl ((u.2.1 9), 40, .inl (fun _ => 0))) :: ((u.1 10), .inl ((u.2.1 10), 40, .inl (fun _ => 0))) :: ((u.1 11), .inl ((u.2.1 11), 40, .inl (fun _ => 0))) :: ((u.1 12), .inl ((u.2.1 12), 40, .inl (fun _ => 0))) :: ((u.1 13), .inl ((u.2.1 13), 40, .inl (fun _ => 0))) :: ((u.1 14), .inl ((u.2.1 14), 40, .inl (fun _ => 0))) :: ((u.1 15), .inl ((u.2.1 15), 488, .inl (fun _ => 0))) :: ((u.1 16), .inl ((u.2.1 16), 900, .inl (fun _ => 0))) :: ((u.1 17), .inl ((u.2.1 17), 900, .inl (fun _ => 0))) :: ((u.1 18), .inl ((u.2.1 18), 900, .inl (fun _ => 0))) :: ((u.1 19), .inl ((u.2.1 19), 900, .inr (.inl (fun _ => 0)))) :: ((u.1 20), .inl ((u.2.1 20), 900, .inl (fun _ => 0))) :: ((u.1 21), .inl ((u.2.1 21), 4, .inl (upd (upd (upd (upd (fun _ => 0) 0 50) 1 50) 2 50) 3 50))) :: ((u.1 22), .inl ((u.2.1 22), 180, .inl (flf (fun _ => 0) 180 (-1)))) :: ((u.1 23), .inl ((u.2.1 23), 180, .inl (fun _ => 0))) :: [])
def f10 : List Value := [.null, .null, .null, .null, .null, .null]
def f11 : List Value := ((.null) :: (.int 0) :: (.int 0) :: (.int 0) :: (.null) :: (.null) :: (.null) :: (.int 0) :: (.null) :: (.null) :: (.null) :: (.null) :: (.null) :: (.null) :: (.null) :: (.null) :: (.null) :: (.null) :: (.null) :: (.int 0) :: (.int 0) :: (.null) :: (.null) :: (.null) :: (.null) :: (.null) :: (.null) :: (.int 0) :: (.null) :: (.null) :: (.null) :: (.int 0) :: (.int 0) :: (.int 0) :: (.int 0) :: [])
set_option maxRecDepth 100000 in
set_option maxHeartbeats 4000000 in
theorem nC_10 (l : Launch) (D : va_G) (tys : List (ClassId × FieldType)) (A : Nat → Prop) (kk : Nat → Nat) (ws : va_W) {q : Nat} {cO : ClassId} {t0 : Nat} (hO : tys[t0]? = some (cO, .object "java/lang/Object")) : MvN l yX10_init cX10_init 1 { frames := 8, cells := 23, slots := 2067, locals := 212 } [.ref q] (GW D tys A kk (ws ++ [(q, .inr (11, f10))])) (fun u t => GW D (tys ++ CTw u) A kk (ws ++ CLw kk cO q u) t ∧ u.2.2 0 = some (u.1 14)) A := cN_X10 l D tys A kk _ ws hO rfl
set_option maxRecDepth 100000 in
set_option maxHeartbeats 4000000 in
theorem nC_11 (l : Launch) (D : va_G) (tys : List (ClassId × FieldType)) (A : Nat → Prop) (kk : Nat → Nat) (ws : va_W) {q : Nat} : MvN l yX11_init cX11_init 2 { frames := 1, cells := 24, slots := 6112, locals := 20 } [.ref q] (GW D tys A kk (ws ++ [(q, .inr (12, f11))])) (fun u t => GW D (tys ++ MTw u) A kk (ws ++ MLw q u) t) A := cN_X11 l D tys A kk _ ws rfl
set_option maxRecDepth 100000 in
set_option maxHeartbeats 4000000 in
theorem ml_rc {q : Nat} {u : UN} : MLw q u = rcells (adM q u.1) (cAM u.2.1) rh0 := first_M
set_option maxRecDepth 100000 in
set_option maxHeartbeats 4000000 in
theorem cl_ci {D : va_G} {A : Nat → Prop} {kk : Nat → Nat} {H : Heap} {s : State} {q : Nat} {u : UN} {cO : ClassId} {x : Nat × va_E} (hrow : u.2.2 0 = some (u.1 14)) (hP : va_P D vwCl (CLw kk cO q u ++ [x]) H) (hD : va_D A (CLw kk cO q u ++ [x])) : CI D (adC q u.1) (cAC cO u.2.1) kk A (fun _ => 0) (fun _ => u.1 14) (fun _ => 0) [x] sg0 s H := first_C (q := q) (u := u) (cO := cO) (x := x) (kk := kk) hrow hP hD
theorem md_r {A : Nat → Prop} {a b o : va_W} (h : va_D A (a ++ (b ++ o))) : va_D A b := by
  have hc := h.cnt
  simp only [adr_app, List.count_append] at hc
  exact va_D.of (fun q => by have := hc q; omega) (fun y hy => h.mem (List.mem_append_right _ (List.mem_append_left _ hy)))
section WJ
variable {p : Program} {l : Launch} {e : Env} {s : State} {m : MethodId} {args : Array Value} {below : List Frame} {meth : Method} {c : Code} {Q : State → Prop} {ls : Array Slot} {D : va_G} {kk : Nat → Nat} {cO : ClassId} {b L : Nat} {xs : Nat → Int32}
set_option maxRecDepth 100000 in
set_option maxHeartbeats 4000000 in
theorem lw_run (hst : l.stackTraces = false) (S : CallFix p m c cL_law 8 s args wsL RL) (hX : va_X b L xs s s.heap) (hbl : b < s.heap.size) (hL : L ≤ 3072) (hK : va_K D vwCl [(cO, .object "java/lang/Object")] s) (hC : KC (L0 s) kk s) (hN : NW s) (hT : TL (L0 s) s s.heap)
    (kend : ∀ (H : Heap) (locs : List Loc) (ls : Array Slot) (cells slots : Nat), cells ≤ 601024 → slots ≤ 7293034 → va_S (L0 s) s.heap H locs → W p l e room_1 s m args below meth c H locs cells slots Q (F0 m 1254 ls []))
    (hl : lv_has ls 8 [(0, .ref b)]) : W p l e room_1 s m args below meth c s.heap [] 0 0 Q (F0 m 0 ls []) := by
  have hA : ∀ q, s.heap.size ≤ q → L0 s q := fun q h => h
  have hS : va_S (L0 s) s.heap s.heap [] := va_S.rf
  have hP : va_P D vwCl ([] : va_W) s.heap := fun k x hx => by simp at hx
  have hD : va_D (L0 s) ([] : va_W) := ⟨fun i j x y hx => by simp at hx, fun k x hx => by simp at hx⟩
  refine va_new (D := D) (ci := 11) (C := RX10) (T := TX10) (N := 6) S.1 S.2.1 S.2.2.2.2 inX10 tyX10 tyX10_ok S.2.2.2.1 (S.2.2.2.2 _ m_0) (S.2.2.2.2 _ m_1) (S.2.2.2.2 _ m_2) hK hP hD hS hA rfl (fs := f10) (by decide +kernel) (Nat.le_of_ble_eq_true rfl) (Nat.le_of_ble_eq_true rfl) dL_law_0 (fun q1 H hP hD hS => ?_)
  refine lv_dup S.1 S.2.1 dL_law_3 rfl ?_
  refine va_callv (va_runI (As := []) (rest := [.ref q1]) (n := 0) S (nC_10 l D [(cO, .object "java/lang/Object")] (L0 s) kk [] (q := q1) (t0 := 0) rfl) (cwI 0 S.2.2.2.2 (gd_I m_9) rfl rfl rfl (S.2.2.2.2 _ m_2) (S.2.2.2.2 _ m_7) (S.2.2.2.2 _ m_8) rfl (by decide +kernel) ⟨Nat.le_of_ble_eq_true rfl, Nat.le_of_ble_eq_true rfl⟩) ⟨fun a U g mk q => ⟨q.1, q.2.same⟩, fun U hU hw => ⟨rfl, GW.of hP hD hK hC hN hA hS hU hw⟩⟩ rfl rfl hl.1 rfl (lv_room (Nat.le_of_ble_eq_true rfl)) dL_law_4 ⟨Nat.le_of_ble_eq_true rfl, Nat.le_of_ble_eq_true rfl⟩) hS (fun q _ h => h) (fun _ h => h) ?_
  intro u1 t H locs ht hvm _ hB _ _ hS
  obtain ⟨⟨hP, hD, hK, -⟩, hrow⟩ := hB
  rw [ht] at hP
  have hK := va_K.moved hvm.symm hK
  refine lv_astore_n (lv' := [(1, .ref q1), (0, .ref b)]) S.1 S.2.1 dL_law_7 rfl hl (by decide) rfl (fun ls hl => ?_)
  refine va_new (D := D) (ci := 12) (C := RX11) (T := TX11) (N := 35) S.1 S.2.1 S.2.2.2.2 inX11 tyX11 tyX11_ok S.2.2.2.1 (S.2.2.2.2 _ m_3) (S.2.2.2.2 _ m_4) (S.2.2.2.2 _ m_5) hK hP hD hS hA rfl (fs := f11) (by decide +kernel) (Nat.le_of_ble_eq_true rfl) (Nat.le_of_ble_eq_true rfl) dL_law_8 (fun q2 H hP hD hS => ?_)
  refine lv_dup S.1 S.2.1 dL_law_11 rfl ?_
  refine va_callv (va_runI (As := []) (rest := [.ref q2]) (n := 0) S (nC_11 l D ([(cO, .object "java/lang/Object")] ++ CTw u1) (L0 s) kk ([] ++ CLw kk cO q1 u1) (q := q2)) (cwI 0 S.2.2.2.2 (gd_I m_182) rfl rfl rfl (S.2.2.2.2 _ m_5) (S.2.2.2.2 _ m_180) (S.2.2.2.2 _ m_181) rfl (by decide +kernel) ⟨Nat.le_of_ble_eq_true rfl, Nat.le_of_ble_eq_true rfl⟩) ⟨fun a U g mk q => ⟨q.1, q.2.same⟩, fun U hU hw => ⟨rfl, GW.of hP hD hK hC hN hA hS hU hw⟩⟩ rfl rfl hl.1 rfl (lv_room (Nat.le_of_ble_eq_true rfl)) dL_law_12 ⟨Nat.le_of_ble_eq_true rfl, Nat.le_of_ble_eq_true rfl⟩) hS (fun q _ h => h) (fun _ h => h) ?_
  intro u2 t H locs ht hvm _ hB _ _ hS
  obtain ⟨hP, hD, hK, -⟩ := hB
  rw [ht] at hP
  have hK := va_K.moved hvm.symm hK
  refine lv_astore_n (lv' := [(2, .ref q2), (1, .ref q1), (0, .ref b)]) S.1 S.2.1 dL_law_15 rfl hl (by decide) rfl (fun ls hl => ?_)
  refine lv_iconst (v := (1 : Int32)) S.1 S.2.1 dL_law_16 (by decide) ?_
  refine va_newa (D := D) (atype := .long) S.1 S.2.1 (S.2.2.2.2 _ m_6) rfl hK hP hD hS hA (N' := 1) (a0 := (1, .inr (.inl (fun _ => 0)))) (fun _ => rfl) (by decide) (by decide) (Nat.le_of_ble_eq_true rfl) (Nat.le_of_ble_eq_true rfl) (Nat.le_of_ble_eq_true rfl) dL_law_17 (fun q3 cA H hK hP hD hS => ?_)
  refine lv_astore_n (lv' := [(3, .ref q3), (2, .ref q2), (1, .ref q1), (0, .ref b)]) S.1 S.2.1 dL_law_19 rfl hl (by decide) rfl (fun ls hl => ?_)
  refine lv_iconst (v := (0 : Int32)) S.1 S.2.1 dL_law_20 (by decide) ?_
  refine lv_istore (lv' := [(4, .int 0), (3, .ref q3), (2, .ref q2), (1, .ref q1), (0, .ref b)]) S.1 S.2.1 dL_law_21 hl (by decide) rfl (fun ls hl => ?_)
  rw [List.nil_append, List.append_assoc] at hP hD
  have hM : va_P D vwCl (rcells (adM q2 u2.1) (cAM u2.2.1) rh0) H := by rw [← ml_rc]; exact hP.right.left
  have hMD : va_D (L0 s) (rcells (adM q2 u2.1) (cAM u2.2.1) rh0) := by rw [← ml_rc]; exact md_r hD
  have hRA : ∀ q, RA (adM q2 u2.1) q → s.heap.size ≤ q := fun q h => ra_of hMD h
  have hCD : va_D (LA s (adM q2 u2.1)) (CLw kk cO q1 u1 ++ [(q3, .inl (cA, (1, .inr (.inl (fun _ => 0)))))]) := by
    refine md_D hD (fun q h0 h1 => ⟨h0, fun h => ?_⟩)
    rw [ml_rc] at h1
    obtain ⟨k, hk, rfl⟩ := h
    have hk : k ∈ rpl := hk
    obtain ⟨a, ha⟩ := List.mem_iff_getElem?.mp hk
    have h2 : ((rcells (adM q2 u2.1) (cAM u2.2.1) rh0).map (fun q => q.1))[a]? = some (adM q2 u2.1 k) := by rw [rcells_ad, List.getElem?_map, ha]; rfl
    obtain ⟨x, hx, e1⟩ := List.mem_map.mp (List.mem_of_getElem? h2)
    exact h1 x hx e1
  have hF : LF D (cAC cO u1.2.1) (cAM u2.2.1) (adM q2 u2.1) kk cA s := ⟨rd_of hMD, hRA, hK.sub [1, 2, 3, 4, 5, 6, 7, 8, 9, 10, 11, 0] rfl, hK.sub [12, 13, 14, 15, 16, 17, 18, 19, 20, 21, 22, 23, 24, 25, 26, 27, 28, 29, 30, 31, 32, 33, 34, 35] rfl, hK.sub [36] rfl, hC, hN, hT⟩
  have hW : LW D (adC q1 u1.1) (cAC cO u1.2.1) (cAM u2.2.1) (adM q2 u2.1) kk q3 cA (fun _ => 0) (fun _ => u1.1 14) (fun _ => 0) (fun _ => 0) sg0 rh0 s H locs := ⟨cl_ci hrow (md_P hP) hCD, hM, wf0, hS⟩
  refine W.widen (k := 100 + 2 * nn sg0 + 0) (n := 20000 + 1300 * nn sg0 + 6 * 0) (Nat.le_of_ble_eq_true rfl) (Nat.le_of_ble_eq_true rfl) ?_
  exact lk_loop hst S hF hX hbl hL kend 512 0 (by omega) (by omega) _ _ _ _ _ _ _ _ ls hW rel0 (lv_sub hl [0, 4, 3, 2, 1] rfl)
end WJ
