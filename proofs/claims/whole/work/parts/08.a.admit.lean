
def mf (n : Nat) (a b : Int32) (k : Nat) : Int32 := if k = 0 then nI n else if k = 1 then a else if k = 2 then b else 0
set_option maxRecDepth 100000 in
set_option maxHeartbeats 4000000 in
/-- new Member(members.size(), kind, house), put into members -/
theorem admit_new {p : Program} {l : Launch} {e : Env} {s : State} {m : MethodId} {args : Array Value} {below : List Frame} {meth : Method} {c : Code} {H : Heap} {locs : List Loc} {Q : State → Prop} {ls : Array Slot} {A : Nat → Prop} {D : va_G} {ad aM aC aE : Nat → Nat} {cA : Nat → ClassId} {kk : Nat → Nat} {X : va_W} {σ σ0 : SC} {fr0 lo0 : Nat} {a1 a2 a3 : Int32} (S : CallFix p m c cX2_admit 5 s args wsL RX2) (hfr : 7 ≤ fr0 ∧ 191 ≤ lo0) (hle : nn σ0 ≤ nn σ) (hW : CW D ad cA kk A aM aC aE X σ s H locs) (h40 : ¬ 40 ≤ xn σ 0) (hl : lv_has ls 5 [(0, .ref (ad 8)), (1, .int a1), (2, .int a2), (3, .int a3)])
    (kq : ∀ (aM1 : Nat → Nat) (H1 : Heap) (locs1 : List Loc) (ls1 : Array Slot), CW D ad cA kk A aM1 aC aE X (addM σ (mf (xn σ 0) a1 a2) 0) s H1 locs1 → nn σ0 ≤ nn (addM σ (mf (xn σ 0) a1 a2) 0) → lv_has ls1 5 [(4, .ref (aM1 (xn σ 0))), (0, .ref (ad 8)), (1, .int a1), (2, .int a2), (3, .int a3)] → W p l e (mrm fr0 lo0 σ0) s m args below meth c H1 locs1 (cst σ0 (addM σ (mf (xn σ 0) a1 a2) 0)) (sst σ0 (addM σ (mf (xn σ 0) a1 a2) 0)) Q (F0 m 92 ls1 [])) : W p l e (mrm fr0 lo0 σ0) s m args below meth c H locs (cst σ0 σ) (sst σ0 σ) Q (F0 m 64 ls []) := by
  obtain ⟨⟨lm, la, lc, lr, hP, hD, hL0, hL1, hL2⟩, hE, hF, hS⟩ := hW
  have hroom : nn σ + 1 ≤ 1001 := by have := hF.2.2.2.2; have := hF.2.2.2.1; unfold nn; omega
  refine va_new (D := D) (ci := 7) (C := RX6) (T := TX6) (N := 11) S.1 S.2.1 S.2.2.2.2 inX6 tyX6 tyX6_ok S.2.2.2.1 (S.2.2.2.2 _ m_510) (S.2.2.2.2 _ m_511) (S.2.2.2.2 _ m_512) hE.1 hP hD hS hE.2.2.2 rfl (fs := [.int 0, .int 0, .int 0, .int 0, .int 0, .int 0, .long 0, .int 0, .int 0, .int 0, .int 0]) (by decide) (by show cst σ0 σ + 1 ≤ 2 * (1001 - nn σ0); unfold cst; omega) (by show sst σ0 σ + 11 ≤ 1300 * (1001 - nn σ0); unfold sst; omega) dX2_admit_64 (fun q H hP hD hS => ?_)
  refine lv_dup S.1 S.2.1 dX2_admit_67 rfl ?_
  refine lv_aload_n S.1 S.2.1 dX2_admit_68 rfl (lv_at hl 0 rfl) ?_
  have hW : CW D ad cA kk A aM aC aE (X ++ [(q, .inr (7, [.int 0, .int 0, .int 0, .int 0, .int 0, .int 0, .long 0, .int 0, .int 0, .int 0, .int 0]))]) σ s H locs := ⟨⟨lm, la, lc, lr, by rw [← ccells_app]; exact hP, by rw [← ccells_app]; exact hD, hL0, hL1, hL2⟩, hE, hF, hS⟩
  refine xg_X2_32 S hW dX2_admit_69 ?_
  refine xsz_0 S hW (gd_V m_516 m_517 m_518 m_72 m_519) ⟨by show 0 + 1 ≤ fr0; omega, by show 8 + (1 + 11) + 0 ≤ lo0; omega⟩ hl.1 (Nat.le_of_ble_eq_true rfl) ⟨by show cst σ0 σ + 1 ≤ 2 * (1001 - nn σ0); unfold cst; omega, by show sst σ0 σ + 11 ≤ 1300 * (1001 - nn σ0); unfold sst; omega⟩ dX2_admit_72 ?_
  refine lv_iload_n S.1 S.2.1 dX2_admit_75 rfl (lv_at hl 1 rfl) ?_
  refine lv_iload_n S.1 S.2.1 dX2_admit_76 rfl (lv_at hl 2 rfl) ?_
  refine va_callv (va_runI (As := [.int (nI (xn σ 0)), .int a1, .int a2]) (rest := [.ref q]) (n := 3) S (cG_initM l D (ctys cA) A kk _ (a1 := nI (xn σ 0)) (a2 := a1) (a3 := a2) (at_last (ccells ad aM aC aE cA lm la lc lr X σ) _)) (cwI 3 S.2.2.2.2 (gd_I m_532) rfl rfl rfl (S.2.2.2.2 _ m_512) (S.2.2.2.2 _ m_530) (S.2.2.2.2 _ m_531) rfl (by decide +kernel) ⟨by show 1 + 1 ≤ fr0; omega, by show 8 + (4 + 11) + 20 ≤ lo0; omega⟩) ⟨fun a U g mk q => ⟨q.1, q.2.same⟩, fun U hU hw => ⟨rfl, GW.of hP hD hE.1 hE.2.1 hE.2.2.1 hE.2.2.2 hS hU hw⟩⟩ rfl rfl hl.1 rfl (lv_room (Nat.le_of_ble_eq_true rfl)) dX2_admit_77 ⟨by show cst σ0 σ + 1 + 0 ≤ 2 * (1001 - nn σ0); unfold cst; omega, by show sst σ0 σ + 11 + 0 ≤ 1300 * (1001 - nn σ0); unfold sst; omega⟩) hS (fun q _ h => h) (fun _ h => h) ?_
  intro u t H1 locs1 ht hvm _ hB _ _ hS
  obtain ⟨hP, hD, -⟩ := hB
  rw [ht, set_last, ccells_app] at hP
  rw [set_last, ccells_app] at hD
  have hP : va_P D vwCl (ccells ad aM aC aE cA lm la lc lr (X ++ [(q, .inr (7, [.int (mf (xn σ 0) a1 a2 0), .int (mf (xn σ 0) a1 a2 1), .int (mf (xn σ 0) a1 a2 2), .int (mf (xn σ 0) a1 a2 3), .int (mf (xn σ 0) a1 a2 4), .int (mf (xn σ 0) a1 a2 5), .long 0, .int (mf (xn σ 0) a1 a2 7), .int (mf (xn σ 0) a1 a2 8), .int (mf (xn σ 0) a1 a2 9), .int (mf (xn σ 0) a1 a2 10)]))]) σ) H1 := hP
  have hD : va_D A (ccells ad aM aC aE cA lm la lc lr (X ++ [(q, .inr (7, [.int (mf (xn σ 0) a1 a2 0), .int (mf (xn σ 0) a1 a2 1), .int (mf (xn σ 0) a1 a2 2), .int (mf (xn σ 0) a1 a2 3), .int (mf (xn σ 0) a1 a2 4), .int (mf (xn σ 0) a1 a2 5), .long 0, .int (mf (xn σ 0) a1 a2 7), .int (mf (xn σ 0) a1 a2 8), .int (mf (xn σ 0) a1 a2 9), .int (mf (xn σ 0) a1 a2 10)]))]) σ) := hD
  have hx : (ccells ad aM aC aE cA lm la lc lr (X ++ [(q, .inr (7, [.int (mf (xn σ 0) a1 a2 0), .int (mf (xn σ 0) a1 a2 1), .int (mf (xn σ 0) a1 a2 2), .int (mf (xn σ 0) a1 a2 3), .int (mf (xn σ 0) a1 a2 4), .int (mf (xn σ 0) a1 a2 5), .long 0, .int (mf (xn σ 0) a1 a2 7), .int (mf (xn σ 0) a1 a2 8), .int (mf (xn σ 0) a1 a2 9), .int (mf (xn σ 0) a1 a2 10)]))]) σ)[(ccells ad aM aC aE cA lm la lc lr X σ).length]? = some (q, .inr (7, [.int (mf (xn σ 0) a1 a2 0), .int (mf (xn σ 0) a1 a2 1), .int (mf (xn σ 0) a1 a2 2), .int (mf (xn σ 0) a1 a2 3), .int (mf (xn σ 0) a1 a2 4), .int (mf (xn σ 0) a1 a2 5), .long 0, .int (mf (xn σ 0) a1 a2 7), .int (mf (xn σ 0) a1 a2 8), .int (mf (xn σ 0) a1 a2 9), .int (mf (xn σ 0) a1 a2 10)])) := by rw [← ccells_app]; exact at_last _ _
  have hk : (ccells ad aM aC aE cA lm la lc lr (X ++ [(q, .inr (7, [.int (mf (xn σ 0) a1 a2 0), .int (mf (xn σ 0) a1 a2 1), .int (mf (xn σ 0) a1 a2 2), .int (mf (xn σ 0) a1 a2 3), .int (mf (xn σ 0) a1 a2 4), .int (mf (xn σ 0) a1 a2 5), .long 0, .int (mf (xn σ 0) a1 a2 7), .int (mf (xn σ 0) a1 a2 8), .int (mf (xn σ 0) a1 a2 9), .int (mf (xn σ 0) a1 a2 10)]))]) σ)[11]? = some (ad 11, .inr (0, [.int (lm 0), .ref (la 0), .int (nI (xn σ 0))])) := rfl
  have hxq : q ≠ ad 11 := fun e2 => by
    have h14 := hD.1 _ _ _ _ hx hk e2
    rw [h14, hk] at hx
    cases hx
  have hel := hel_of (j := 0) hD hk hL0 (ci := 7) rfl nw_71 (fun i hi => ⟨_, _, (fun e2 => by omega), cm_at hi⟩)
  have hdat := hdat_of (j := 0) hD hk hL0 (fun h => cd_at0 h)
  refine lv_astore (lv' := [(4, .ref q), (0, .ref (ad 8)), (1, .int a1), (2, .int a2), (3, .int a3)]) S.1 S.2.1 dX2_admit_80 hl (by decide) rfl (fun ls hl => ?_)
  refine lv_aload_n S.1 S.2.1 dX2_admit_82 rfl (lv_at hl 1 rfl) ?_
  have hW : CW D ad cA kk A aM aC aE (X ++ [(q, .inr (7, [.int (mf (xn σ 0) a1 a2 0), .int (mf (xn σ 0) a1 a2 1), .int (mf (xn σ 0) a1 a2 2), .int (mf (xn σ 0) a1 a2 3), .int (mf (xn σ 0) a1 a2 4), .int (mf (xn σ 0) a1 a2 5), .long 0, .int (mf (xn σ 0) a1 a2 7), .int (mf (xn σ 0) a1 a2 8), .int (mf (xn σ 0) a1 a2 9), .int (mf (xn σ 0) a1 a2 10)]))]) σ s H1 locs1 := ⟨⟨lm, la, lc, lr, hP, hD, hL0, hL1, hL2⟩, hE, hF, hS⟩
  refine xg_X2_32 S hW dX2_admit_83 ?_
  refine lv_aload S.1 S.2.1 dX2_admit_86 (lv_at hl 0 rfl) ?_
  refine va_calli (va_runV (As := [.ref q]) (rest := []) (n := 1) S (cG_addU l D (ctys cA) A kk _ (t0 := 11) hk hx hxq rfl nw_71 rfl (by omega) hdat hel) (cwV 1 S.2.2.2.2 (gd_V m_113 m_114 m_115 m_72 m_116) rfl rfl rfl (by decide +kernel) ⟨by show 6 + 1 ≤ fr0; omega, by show 8 + (2 + 11) + 170 ≤ lo0; omega⟩) ⟨fun a U g mk q => ⟨q.1, q.2.same⟩, va_recv hE.1 hP (ci := 0) rfl hk, fun U hU hw => ⟨rfl, GW.of hP hD hE.1 hE.2.1 hE.2.2.1 hE.2.2.2 hS hU hw⟩⟩ rfl rfl hl.1 rfl (lv_room (Nat.le_of_ble_eq_true rfl)) dX2_admit_88 ⟨by show cst σ0 σ + 1 + 0 + 1 ≤ 2 * (1001 - nn σ0); unfold cst; omega, by show sst σ0 σ + 11 + 0 + 1240 ≤ 1300 * (1001 - nn σ0); unfold sst; omega⟩) hS (fun q _ h => h) (fun _ h => h) ?_
  intro r u t H1 locs1 ht hvm hw hB _ _ hS
  obtain ⟨rfl, hG, hr1, hr2⟩ := hw
  have hCI := ci_addM (D := D) (H := H1) (s := s) (f := mf (xn σ 0) a1 a2) hF.1 hD (by rw [← ht]; exact hB.1) hB.2.1 hE.2.1.empty hL0 hL1 hL2 hG hr1 hr2
  refine lv_pop S.1 S.2.1 dX2_admit_91 rfl ?_
  have hnn : nn (addM σ (mf (xn σ 0) a1 a2) 0) = nn σ + 1 := by show xn σ 0 + 1 + xn σ 1 + xn σ 2 = xn σ 0 + xn σ 1 + xn σ 2 + 1; omega
  refine W.widen (k := cst σ0 (addM σ (mf (xn σ 0) a1 a2) 0)) (n := sst σ0 (addM σ (mf (xn σ 0) a1 a2) 0)) (by show cst σ0 σ + 1 + 0 + 1 ≤ _; unfold cst; rw [hnn]; omega) (by show sst σ0 σ + 11 + 0 + 1240 ≤ _; unfold sst; rw [hnn]; omega) ?_
  refine kq (va_up aM (xn σ 0) q) H1 locs1 ls ⟨hCI, hE, ⟨fun i hi => ?_, hF.2.1, ?_, hF.2.2.2.1, hF.2.2.2.2⟩, hS⟩ (by rw [hnn]; omega) (by rw [va_up_self]; exact hl)
  · show xo σ i < xn σ 0 + 1
    exact Nat.lt_succ_of_lt (hF.1 i hi)
  · show xn σ 0 + 1 ≤ 40
    omega
set_option maxRecDepth 100000 in
set_option maxHeartbeats 4000000 in
/-- choiceNow = new Choice(), put into choices -/
theorem bnm_new {p : Program} {l : Launch} {e : Env} {s : State} {m : MethodId} {args : Array Value} {below : List Frame} {meth : Method} {c : Code} {H : Heap} {locs : List Loc} {Q : State → Prop} {ls : Array Slot} {A : Nat → Prop} {D : va_G} {ad aM aC aE : Nat → Nat} {cA : Nat → ClassId} {kk : Nat → Nat} {X : va_W} {σ σ0 : SC} {fr0 lo0 : Nat} (S : CallFix p m c cX2_beginNextMonth 2 s args wsL RX2) (hfr : 7 ≤ fr0 ∧ 191 ≤ lo0) (hle : nn σ0 ≤ nn σ) (hW : CW D ad cA kk A aM aC aE X σ s H locs) (h61 : ¬ 61 ≤ xn σ 1) (hl : lv_has ls 2 [(0, .ref (ad 8))])
    (kq : ∀ (aC1 : Nat → Nat) (H1 : Heap) (locs1 : List Loc), CW D ad cA kk A aM aC1 aE X (yNow (addC σ (fun _ => 0)) (xn σ 1)) s H1 locs1 → nn σ0 ≤ nn (yNow (addC σ (fun _ => 0)) (xn σ 1)) → W p l e (mrm fr0 lo0 σ0) s m args below meth c H1 locs1 (cst σ0 (yNow (addC σ (fun _ => 0)) (xn σ 1))) (sst σ0 (yNow (addC σ (fun _ => 0)) (xn σ 1))) Q (F0 m 33 ls [])) : W p l e (mrm fr0 lo0 σ0) s m args below meth c H locs (cst σ0 σ) (sst σ0 σ) Q (F0 m 10 ls []) := by
  obtain ⟨⟨lm, la, lc, lr, hP, hD, hL0, hL1, hL2⟩, hE, hF, hS⟩ := hW
  have hroom : nn σ + 1 ≤ 1001 := by have := hF.2.2.2.2; have := hF.2.2.1; unfold nn; omega
  refine lv_aload_n S.1 S.2.1 dX2_beginNextMonth_10 rfl (lv_at hl 0 rfl) ?_
  refine va_new (D := D) (ci := 2) (C := RX1) (T := TX1) (N := 8) S.1 S.2.1 S.2.2.2.2 inX1 tyX1 tyX1_ok S.2.2.2.1 (S.2.2.2.2 _ m_79) (S.2.2.2.2 _ m_80) (S.2.2.2.2 _ m_81) hE.1 hP hD hS hE.2.2.2 rfl (fs := [.int 0, .int 0, .int 0, .int 0, .int 0, .int 0, .int 0, .int 0]) (by decide) (by show cst σ0 σ + 1 ≤ 2 * (1001 - nn σ0); unfold cst; omega) (by show sst σ0 σ + 8 ≤ 1300 * (1001 - nn σ0); unfold sst; omega) dX2_beginNextMonth_11 (fun q H hP hD hS => ?_)
  refine lv_dup S.1 S.2.1 dX2_beginNextMonth_14 rfl ?_
  refine va_callv (va_runIN (As := []) (rest := [.ref q, .ref (ad 8)]) (n := 0) S (cG_initC l D (ctys cA) A kk _ (at_last (ccells ad aM aC aE cA lm la lc lr X σ) _)) ⟨va_cnB 0 S.2.2.2.2 (gd_I m_111) rfl rfl rfl (hE.2.2.1 _ nw_4) (S.2.2.2.2 _ m_81) (by decide +kernel) ⟨by show 1 + 1 ≤ fr0; omega, by show 8 + (1 + 11) + 20 ≤ lo0; omega⟩, rfl, S.2.2.2.2 _ m_110⟩ ⟨fun a U g mk q => ⟨q.1, q.2.same⟩, fun U hU hw => ⟨rfl, GW.of hP hD hE.1 hE.2.1 hE.2.2.1 hE.2.2.2 hS hU hw⟩⟩ rfl rfl hl.1 rfl (lv_room (Nat.le_of_ble_eq_true rfl)) dX2_beginNextMonth_15 ⟨by show cst σ0 σ + 1 + 0 ≤ 2 * (1001 - nn σ0); unfold cst; omega, by show sst σ0 σ + 8 + 0 ≤ 1300 * (1001 - nn σ0); unfold sst; omega⟩) hS (fun q _ h => h) (fun _ h => h) ?_
  intro u t H1 locs1 ht hvm _ hB _ _ hS
  obtain ⟨hP, hD, -⟩ := hB
  rw [ht, ccells_app] at hP
  rw [ccells_app] at hD
  refine va_put (D := D) (ci := 3) (v := .ref q) (ty := .object "BookClub$Choice") (C := RX2) (T := TX2) (N := 8) S.1 S.2.1 S.2.2.2.2 inX2 tyX2 tyX2_ok nmX2 S.2.2.2.1 hE.1 hP hD hS 8 rfl rfl 6 (by decide) (S.2.2.2.2 _ m_82) (fun _ h => h) rfl (by decide +kernel) rfl rfl (Nat.le_of_ble_eq_true rfl) dX2_beginNextMonth_18 (fun H locs hP hD hS => ?_)
  have hP : va_P D vwCl (cfixq ad q cA lm la σ ++ (cms aM (xn σ 0) σ.2.2.2.2.1 σ.2.2.2.2.2.1 ++ (ccs aC (xn σ 1) σ.2.2.2.2.2.2.1 ++ (ces aM aE (xn σ 2) σ.2.2.2.2.2.2.2.1 σ.2.2.2.2.2.2.2.2.1 σ.2.2.2.2.2.2.2.2.2 ++ (cds (cA 30) la lc lr 0 ++ (cds (cA 30) la lc lr 1 ++ (cds (cA 30) la lc lr 2 ++ (X ++ [(q, .inr (2, [.int 0, .int 0, .int 0, .int 0, .int 0, .int 0, .int 0, .int 0]))])))))))) H := hP
  have hD : va_D A (cfixq ad q cA lm la σ ++ (cms aM (xn σ 0) σ.2.2.2.2.1 σ.2.2.2.2.2.1 ++ (ccs aC (xn σ 1) σ.2.2.2.2.2.2.1 ++ (ces aM aE (xn σ 2) σ.2.2.2.2.2.2.2.1 σ.2.2.2.2.2.2.2.2.1 σ.2.2.2.2.2.2.2.2.2 ++ (cds (cA 30) la lc lr 0 ++ (cds (cA 30) la lc lr 1 ++ (cds (cA 30) la lc lr 2 ++ (X ++ [(q, .inr (2, [.int 0, .int 0, .int 0, .int 0, .int 0, .int 0, .int 0, .int 0]))])))))))) := hD
  refine lv_aload_n S.1 S.2.1 dX2_beginNextMonth_21 rfl (lv_at hl 0 rfl) ?_
  refine va_get (D := D) (ci := 3) (v := .ref (ad 12)) (C := RX2) (T := TX2) (N := 8) S.1 S.2.1 S.2.2.2.2 inX2 S.2.2.2.1 hE.1 hP 8 rfl rfl 4 (by decide) (S.2.2.2.2 _ m_74) (fun _ h => h) rfl dX2_beginNextMonth_22 ?_
  refine lv_aload_n S.1 S.2.1 dX2_beginNextMonth_25 rfl (lv_at hl 0 rfl) ?_
  refine va_get (D := D) (ci := 3) (v := .ref q) (C := RX2) (T := TX2) (N := 8) S.1 S.2.1 S.2.2.2.2 inX2 S.2.2.2.1 hE.1 hP 8 rfl rfl 6 (by decide) (S.2.2.2.2 _ m_82) (fun _ h => h) rfl dX2_beginNextMonth_26 ?_
  have hk : (cfixq ad q cA lm la σ ++ (cms aM (xn σ 0) σ.2.2.2.2.1 σ.2.2.2.2.2.1 ++ (ccs aC (xn σ 1) σ.2.2.2.2.2.2.1 ++ (ces aM aE (xn σ 2) σ.2.2.2.2.2.2.2.1 σ.2.2.2.2.2.2.2.2.1 σ.2.2.2.2.2.2.2.2.2 ++ (cds (cA 30) la lc lr 0 ++ (cds (cA 30) la lc lr 1 ++ (cds (cA 30) la lc lr 2 ++ (X ++ [(q, .inr (2, [.int 0, .int 0, .int 0, .int 0, .int 0, .int 0, .int 0, .int 0]))]))))))))[12]? = some (ad 12, .inr (0, [.int (lm 1), .ref (la 1), .int (nI (xn σ 1))])) := rfl
  obtain ⟨kx, hx⟩ : ∃ kx : Nat, (cfixq ad q cA lm la σ ++ (cms aM (xn σ 0) σ.2.2.2.2.1 σ.2.2.2.2.2.1 ++ (ccs aC (xn σ 1) σ.2.2.2.2.2.2.1 ++ (ces aM aE (xn σ 2) σ.2.2.2.2.2.2.2.1 σ.2.2.2.2.2.2.2.2.1 σ.2.2.2.2.2.2.2.2.2 ++ (cds (cA 30) la lc lr 0 ++ (cds (cA 30) la lc lr 1 ++ (cds (cA 30) la lc lr 2 ++ (X ++ [(q, .inr (2, [.int 0, .int 0, .int 0, .int 0, .int 0, .int 0, .int 0, .int 0]))]))))))))[kx]? = some (q, .inr (2, [.int 0, .int 0, .int 0, .int 0, .int 0, .int 0, .int 0, .int 0])) := List.mem_iff_getElem?.mp (by simp)
  have hxq : q ≠ ad 12 := fun e2 => by
    have h14 := hD.1 _ _ _ _ hx hk e2
    rw [h14, hk] at hx
    cases hx
  have hat : ∀ i, i < xn σ 1 → (cfixq ad q cA lm la σ ++ (cms aM (xn σ 0) σ.2.2.2.2.1 σ.2.2.2.2.2.1 ++ (ccs aC (xn σ 1) σ.2.2.2.2.2.2.1 ++ (ces aM aE (xn σ 2) σ.2.2.2.2.2.2.2.1 σ.2.2.2.2.2.2.2.2.1 σ.2.2.2.2.2.2.2.2.2 ++ (cds (cA 30) la lc lr 0 ++ (cds (cA 30) la lc lr 1 ++ (cds (cA 30) la lc lr 2 ++ (X ++ [(q, .inr (2, [.int 0, .int 0, .int 0, .int 0, .int 0, .int 0, .int 0, .int 0]))]))))))))[22 + (xn σ 0 + i)]? = some (aC i, .inr (2, [.int (xc σ 0 i), .int (xc σ 1 i), .int (xc σ 2 i), .int (xc σ 3 i), .int (xc σ 4 i), .int (xc σ 5 i), .int (xc σ 6 i), .int (xc σ 7 i)])) := fun i hi => (app_at 22 rfl).trans ((app_at _ (by simp [cms])).trans (app_atL (map_at hi)))
  have hel := hel_of (j := 1) hD hk hL1 (ci := 2) rfl nw_67 (fun i hi => ⟨_, _, (fun e2 => by omega), hat i hi⟩)
  have hdat := hdat_of (j := 1) hD hk hL1 (fun h => List.mem_iff_getElem?.mp (List.mem_append_right _ (List.mem_append_right _ (List.mem_append_right _ (List.mem_append_right _ (List.mem_append_right _ (List.mem_append_left _ (by rw [cds_cons h]; exact List.mem_cons_self))))))))
  refine va_calli (va_runV (As := [.ref q]) (rest := []) (n := 1) S (cG_addU l D (ctys cA) A kk _ (t0 := 11) hk hx hxq rfl nw_67 rfl (by omega) hdat hel) (cwV 1 S.2.2.2.2 (gd_V m_113 m_114 m_115 m_72 m_116) rfl rfl rfl (by decide +kernel) ⟨by show 6 + 1 ≤ fr0; omega, by show 8 + (2 + 11) + 170 ≤ lo0; omega⟩) ⟨fun a U g mk q => ⟨q.1, q.2.same⟩, va_recv hE.1 hP (ci := 0) rfl hk, fun U hU hw => ⟨rfl, GW.of hP hD hE.1 hE.2.1 hE.2.2.1 hE.2.2.2 hS hU hw⟩⟩ rfl rfl hl.1 rfl (lv_room (Nat.le_of_ble_eq_true rfl)) dX2_beginNextMonth_29 ⟨by show cst σ0 σ + 1 + 0 + 1 ≤ 2 * (1001 - nn σ0); unfold cst; omega, by show sst σ0 σ + 8 + 0 + 1240 ≤ 1300 * (1001 - nn σ0); unfold sst; omega⟩) hS (fun q _ h => h) (fun _ h => h) ?_
  intro r u t H1 locs1 ht hvm hw hB _ _ hS
  obtain ⟨rfl, hG, hr1, hr2⟩ := hw
  have hCI := ci_addC (D := D) (H := H1) (s := s) (f := fun _ => 0) hD (by rw [← ht]; exact hB.1) hB.2.1 hE.2.1.empty hL0 hL1 hL2 hG hr1 hr2
  refine lv_pop S.1 S.2.1 dX2_beginNextMonth_32 rfl ?_
  have hnn : nn (yNow (addC σ (fun _ => 0)) (xn σ 1)) = nn σ + 1 := by show xn σ 0 + (xn σ 1 + 1) + xn σ 2 = xn σ 0 + xn σ 1 + xn σ 2 + 1; omega
  refine W.widen (k := cst σ0 (yNow (addC σ (fun _ => 0)) (xn σ 1))) (n := sst σ0 (yNow (addC σ (fun _ => 0)) (xn σ 1))) (by show cst σ0 σ + 1 + 0 + 1 ≤ _; unfold cst; rw [hnn]; omega) (by show sst σ0 σ + 8 + 0 + 1240 ≤ _; unfold sst; rw [hnn]; omega) ?_
  refine kq (va_up aC (xn σ 1) q) H1 locs1 ⟨hCI, hE, ⟨hF.1, ?_, hF.2.2.1, ?_, hF.2.2.2.2⟩, hS⟩ (by rw [hnn]; omega)
  · show xn σ 1 < xn σ 1 + 1
    omega
  · show xn σ 1 + 1 ≤ 61
    omega
def fC_Cl_admit (σ : SC) (a1 : Int32) (a2 : Int32) : Option (Int32 × SC) :=
  Option.bind (fC_Ch_isKind a1) (fun u1 =>
  if u1 = 0 then
  some ((-1 : Int32), σ)
  else
  Option.bind (fC_Cl_isHouse a2) (fun u2 =>
  if u2 = 0 then
  some ((-1 : Int32), σ)
  else
  if (nI (xn σ 0)) < (40 : Int32) then
  if a2 < 0 ∨ 10 ≤ (a2).toNatClampNeg then none else
  Option.bind (if (xf σ 5 (a2).toNatClampNeg) = 0 then
  Option.bind (fC_Cl_inForceNow σ ((3 : Int32))) (fun u5 =>
  some (u5))
  else
  some ((0 : Int32))) (fun u4 =>
  if u4 ≤ 0 then
  if 40 ≤ xn σ 0 then none else
  Option.bind (if u4 ≤ 0 then
  some (addM σ (mf (xn σ 0) a1 a2) 0)
  else
  Option.bind (fC_Cl_write (yf (addM σ (mf (xn σ 0) a1 a2) 0) 5 (a2).toNatClampNeg ((1 : Int32))) ((xn σ 0)) ((0 : Int32)) ((u4).toInt64)) (fun u8 =>
  some (u8))) (fun u7 =>
  if xn u7 0 ≤ (xn σ 0) then none else
  some ((xm u7 0 ((xn σ 0))), u7))
  else
  Option.bind (fC_Le_roomLeft σ) (fun u10 =>
  if (1 : Int32) ≤ u10 then
  if 40 ≤ xn σ 0 then none else
  Option.bind (if u4 ≤ 0 then
  some (addM σ (mf (xn σ 0) a1 a2) 0)
  else
  Option.bind (fC_Cl_write (yf (addM σ (mf (xn σ 0) a1 a2) 0) 5 (a2).toNatClampNeg ((1 : Int32))) ((xn σ 0)) ((0 : Int32)) ((u4).toInt64)) (fun u13 =>
  some (u13))) (fun u12 =>
  if xn u12 0 ≤ (xn σ 0) then none else
  some ((xm u12 0 ((xn σ 0))), u12))
  else
  some ((-1 : Int32), σ)))
  else
  some ((-1 : Int32), σ)))
set_option maxRecDepth 100000 in
set_option maxHeartbeats 4000000 in
theorem cC_Cl_admit (l : Launch) (D : va_G) (ad : Nat → Nat) (cA : Nat → ClassId) (kk : Nat → Nat) (A : Nat → Prop) (aM aC aE : Nat → Nat) (X : va_W) {σ : SC} {a1 : Int32} {a2 : Int32} {o : Int32 × SC} (hF : fC_Cl_admit σ a1 a2 = some o) : MiE GA l yX2_admit cX2_admit 5 9 240 [.ref (ad 8), .int a1, .int a2] D ad cA kk A aM aC aE X σ o.1 o.2 := by
  refine Mg.of (own := RX2) rfl (by decide +kernel) (Nat.le_of_ble_eq_true rfl) ?_
  intro p e s m args below meth c ls S hr hlk hP hl
  have hW := CW.start hP
  have hle : nn σ ≤ nn σ := Nat.le_refl _
  refine W.cs (cells' := cst σ σ) (slots' := sst σ σ) (cst_0 σ).symm (sst_0 σ).symm ?_
  have hl : lv_has ls 5 [(0, .ref (ad 8)), (1, .int a1), (2, .int a2)] := hl
  rw [fC_Cl_admit] at hF
  refine lv_iload_n S.1 S.2.1 dX2_admit_0 rfl (lv_at hl 1 rfl) ?_
  obtain ⟨u1, hu1, hF⟩ := bd_of hF
  refine kc_s (k := 1) (As := [.int a1]) (rest := []) (cC_Ch_isKind l hu1) (fun U hU hw => (hW.2.1.2.2.1).warm hw) (fun _ _ _ _ h => h.same) S (gd_S m_513 m_514 m_31 m_515) rfl rfl (by decide +kernel) ⟨Nat.le_of_ble_eq_true rfl, Nat.le_of_ble_eq_true rfl⟩ rfl hl.1 rfl (Nat.le_of_ble_eq_true rfl) ⟨cs_c hle hW.2.2.1, cs_s hle hW.2.2.1⟩ dX2_admit_1 ?_
  refine lv_if_eq (tgt := 26) S.1 S.2.1 dX2_admit_4 (by decide) (fun hc => ?_) (fun hc => ?_)
  · have hF := it_pos hc hF
    refine lv_iconst (v := (-1 : Int32)) S.1 S.2.1 dX2_admit_26 (by decide) ?_
    obtain rfl := Option.some.inj hF
    exact er_i S hr hlk trivial hle hW rfl dX2_admit_27
  · have hF := it_neg hc hF
    refine lv_iload_n S.1 S.2.1 dX2_admit_7 rfl (lv_at hl 2 rfl) ?_
    obtain ⟨u2, hu2, hF⟩ := bd_of hF
    refine kc_s (k := 1) (As := [.int a2]) (rest := []) (cC_Cl_isHouse l hu2) (fun U hU hw => (hW.2.1.2.2.1).warm hw) (fun _ _ _ _ h => h.same) S (gd_S m_495 m_496 m_27 m_497) rfl rfl (by decide +kernel) ⟨Nat.le_of_ble_eq_true rfl, Nat.le_of_ble_eq_true rfl⟩ rfl hl.1 rfl (Nat.le_of_ble_eq_true rfl) ⟨cs_c hle hW.2.2.1, cs_s hle hW.2.2.1⟩ dX2_admit_8 ?_
    refine lv_if_eq (tgt := 26) S.1 S.2.1 dX2_admit_11 (by decide) (fun hc => ?_) (fun hc => ?_)
    · have hF := it_pos hc hF
      refine lv_iconst (v := (-1 : Int32)) S.1 S.2.1 dX2_admit_26 (by decide) ?_
      obtain rfl := Option.some.inj hF
      exact er_i S hr hlk trivial hle hW rfl dX2_admit_27
    · have hF := it_neg hc hF
      refine lv_aload_n S.1 S.2.1 dX2_admit_14 rfl (lv_at hl 0 rfl) ?_
      refine xg_X2_32 S hW dX2_admit_15 ?_
      refine xsz_0 S hW (gd_V m_516 m_517 m_518 m_72 m_519) ⟨Nat.le_of_ble_eq_true rfl, Nat.le_of_ble_eq_true rfl⟩ hl.1 (Nat.le_of_ble_eq_true rfl) ⟨cs_c hle hW.2.2.1, cs_s hle hW.2.2.1⟩ dX2_admit_18 ?_
      refine lv_bipush (v := (40 : Int32)) S.1 S.2.1 dX2_admit_21 (by decide) ?_
      refine lv_icmp_lt (tgt := 28) S.1 S.2.1 dX2_admit_23 (by decide) (fun hc => ?_) (fun hc => ?_)
      · have hF := it_pos hc hF
        refine lv_aload_n S.1 S.2.1 dX2_admit_28 rfl (lv_at hl 0 rfl) ?_
        refine xg_X2_25 S hW dX2_admit_29 ?_
        refine lv_iload_n S.1 S.2.1 dX2_admit_32 rfl (lv_at hl 2 rfl) ?_
        obtain ⟨h3, hF⟩ := gd_of hF
        refine xl_10 S hW h3 dX2_admit_33 ?_
        obtain ⟨u4, hX, hF⟩ := bd_of hF
        refine jnE (cst σ σ) (sst σ σ) (fun H locs ls => lv_has ls 5 [(0, .ref (ad 8)), (1, .int a1), (2, .int a2)] ∧ EW D ad cA kk A aM aC X σ σ s H locs) 46 [.int u4] (fun H locs ls hJ => ?_) (fun Ju4 => ?_)
        · obtain ⟨hl, hW⟩ := hJ
          obtain ⟨aE, hW, hle⟩ := hW
          refine lv_istore_n (lv' := [(3, .int u4), (0, .ref (ad 8)), (1, .int a1), (2, .int a2)]) S.1 S.2.1 dX2_admit_46 rfl hl (by decide) rfl (fun ls hl => ?_)
          refine lv_iload_n S.1 S.2.1 dX2_admit_47 rfl (lv_at hl 0 rfl) ?_
          refine lv_if_le (tgt := 64) S.1 S.2.1 dX2_admit_48 (by decide) (fun hc => ?_) (fun hc => ?_)
          · have hF := it_pos hc hF
            obtain ⟨h6, hF⟩ := gd_of hF
            refine admit_new S ⟨Nat.le_of_ble_eq_true rfl, Nat.le_of_ble_eq_true rfl⟩ hle hW h6 (lv_sub hl [1, 2, 3, 0] rfl) (fun aM H locs ls hW hle hl => ?_)
            refine lv_iload_n S.1 S.2.1 dX2_admit_92 rfl (lv_at hl 4 rfl) ?_
            obtain ⟨u7, hX, hF⟩ := bd_of hF
            refine jnE (cst σ u7) (sst σ u7) (fun H locs ls => lv_has ls 5 [(4, .ref (aM ((xn σ 0))))] ∧ EW D ad cA kk A aM aC X σ u7 s H locs) 112 [] (fun H locs ls hJ => ?_) (fun Ju7 => ?_)
            · obtain ⟨hl, hW⟩ := hJ
              obtain ⟨aE, hW, hle⟩ := hW
              refine lv_aload S.1 S.2.1 dX2_admit_112 (lv_at hl 0 rfl) ?_
              obtain ⟨h9, hF⟩ := gd_of hF
              refine xg_X2_101 S hW (Nat.lt_of_not_le h9) dX2_admit_114 ?_
              obtain rfl := Option.some.inj hF
              exact er_i S hr hlk trivial hle hW rfl dX2_admit_117
            · have hF := hX
              refine lv_if_le (tgt := 112) S.1 S.2.1 dX2_admit_93 (by decide) (fun hc => ?_) (fun hc => ?_)
              · have hF := it_pos hc hF
                obtain rfl := Option.some.inj hF
                exact Ju7 _ _ _ ⟨lv_sub hl [0] rfl, ⟨aE, hW, hle⟩⟩
              · have hF := it_neg hc hF
                refine lv_aload_n S.1 S.2.1 dX2_admit_96 rfl (lv_at hl 1 rfl) ?_
                refine xg_X2_25 S hW dX2_admit_97 ?_
                refine lv_iload_n S.1 S.2.1 dX2_admit_100 rfl (lv_at hl 3 rfl) ?_
                refine lv_iconst (v := (1 : Int32)) S.1 S.2.1 dX2_admit_101 (by decide) ?_
                refine xs_10 (y := (1 : Int32)) S hW h3 rfl dX2_admit_102 (fun H locs hW => ?_)
                refine lv_aload_n S.1 S.2.1 dX2_admit_103 rfl (lv_at hl 1 rfl) ?_
                refine lv_aload S.1 S.2.1 dX2_admit_104 (lv_at hl 0 rfl) ?_
                refine lv_iconst (v := (0 : Int32)) S.1 S.2.1 dX2_admit_106 (by decide) ?_
                refine lv_iload_n S.1 S.2.1 dX2_admit_107 rfl (lv_at hl 4 rfl) ?_
                refine lv_i2l (v := (u4).toInt64) S.1 S.2.1 dX2_admit_108 rfl ?_
                have hq : nn (yf (addM σ (mf (xn σ 0) a1 a2) 0) 5 (a2).toNatClampNeg ((1 : Int32))) = nn (addM σ (mf (xn σ 0) a1 a2) 0) := by simp only [nn, xn_yz, xn_yf, xn_yg, xn_ym, xn_yb, xn_yc, xn_ye]
                have hle : nn σ ≤ nn (yf (addM σ (mf (xn σ 0) a1 a2) 0) 5 (a2).toNatClampNeg ((1 : Int32))) := hq ▸ hle
                refine W.cs (cells' := cst σ (yf (addM σ (mf (xn σ 0) a1 a2) 0) 5 (a2).toNatClampNeg ((1 : Int32)))) (slots' := sst σ (yf (addM σ (mf (xn σ 0) a1 a2) 0) 5 (a2).toNatClampNeg ((1 : Int32)))) (cst_eq hq) (sst_eq hq) ?_
                obtain ⟨u8, hu8, hF⟩ := bd_of hF
                refine xe_v (k := 3) (As := [.ref (aM ((xn σ 0))), .int ((0 : Int32)), .long ((u4).toInt64)]) (rest := []) (cC_Cl_write l D ad cA kk A aM aC aE X hu8) (xr_RX2 hW) S hle hW (gd_V m_538 m_539 m_540 m_27 m_541) (by decide +kernel) ⟨Nat.le_of_ble_eq_true rfl, Nat.le_of_ble_eq_true rfl⟩ rfl hl.1 rfl (Nat.le_of_ble_eq_true rfl) dX2_admit_109 (fun aE H locs hW hle => ?_)
                obtain rfl := Option.some.inj hF
                exact Ju7 _ _ _ ⟨lv_sub hl [0] rfl, ⟨aE, hW, hle⟩⟩
          · have hF := it_neg hc hF
            refine lv_aload_n S.1 S.2.1 dX2_admit_51 rfl (lv_at hl 1 rfl) ?_
            refine xg_X2_42 S hW dX2_admit_52 ?_
            obtain ⟨u10, hu10, hF⟩ := bd_of hF
            refine xc_i (k := 0) (As := []) (rest := []) (cC_Le_roomLeft l D ad cA kk A aM aC aE X hu10) (xr_RX5 hW) S hW (gd_V m_525 m_526 m_527 m_77 m_528) (by decide +kernel) ⟨Nat.le_of_ble_eq_true rfl, Nat.le_of_ble_eq_true rfl⟩ rfl hl.1 rfl (Nat.le_of_ble_eq_true rfl) ⟨cs_c hle hW.2.2.1, cs_s hle hW.2.2.1⟩ dX2_admit_55 (fun H locs hW => ?_)
            refine lv_iconst (v := (1 : Int32)) S.1 S.2.1 dX2_admit_58 (by decide) ?_
            refine lv_icmp_ge (tgt := 64) S.1 S.2.1 dX2_admit_59 (by decide) (fun hc => ?_) (fun hc => ?_)
            · have hF := it_pos hc hF
              obtain ⟨h11, hF⟩ := gd_of hF
              refine admit_new S ⟨Nat.le_of_ble_eq_true rfl, Nat.le_of_ble_eq_true rfl⟩ hle hW h11 (lv_sub hl [1, 2, 3, 0] rfl) (fun aM H locs ls hW hle hl => ?_)
              refine lv_iload_n S.1 S.2.1 dX2_admit_92 rfl (lv_at hl 4 rfl) ?_
              obtain ⟨u12, hX, hF⟩ := bd_of hF
              refine jnE (cst σ u12) (sst σ u12) (fun H locs ls => lv_has ls 5 [(4, .ref (aM ((xn σ 0))))] ∧ EW D ad cA kk A aM aC X σ u12 s H locs) 112 [] (fun H locs ls hJ => ?_) (fun Ju12 => ?_)
              · obtain ⟨hl, hW⟩ := hJ
                obtain ⟨aE, hW, hle⟩ := hW
                refine lv_aload S.1 S.2.1 dX2_admit_112 (lv_at hl 0 rfl) ?_
                obtain ⟨h14, hF⟩ := gd_of hF
                refine xg_X2_101 S hW (Nat.lt_of_not_le h14) dX2_admit_114 ?_
                obtain rfl := Option.some.inj hF
                exact er_i S hr hlk trivial hle hW rfl dX2_admit_117
              · have hF := hX
                refine lv_if_le (tgt := 112) S.1 S.2.1 dX2_admit_93 (by decide) (fun hc => ?_) (fun hc => ?_)
                · have hF := it_pos hc hF
                  obtain rfl := Option.some.inj hF
                  exact Ju12 _ _ _ ⟨lv_sub hl [0] rfl, ⟨aE, hW, hle⟩⟩
                · have hF := it_neg hc hF
                  refine lv_aload_n S.1 S.2.1 dX2_admit_96 rfl (lv_at hl 1 rfl) ?_
                  refine xg_X2_25 S hW dX2_admit_97 ?_
                  refine lv_iload_n S.1 S.2.1 dX2_admit_100 rfl (lv_at hl 3 rfl) ?_
                  refine lv_iconst (v := (1 : Int32)) S.1 S.2.1 dX2_admit_101 (by decide) ?_
                  refine xs_10 (y := (1 : Int32)) S hW h3 rfl dX2_admit_102 (fun H locs hW => ?_)
                  refine lv_aload_n S.1 S.2.1 dX2_admit_103 rfl (lv_at hl 1 rfl) ?_
                  refine lv_aload S.1 S.2.1 dX2_admit_104 (lv_at hl 0 rfl) ?_
                  refine lv_iconst (v := (0 : Int32)) S.1 S.2.1 dX2_admit_106 (by decide) ?_
                  refine lv_iload_n S.1 S.2.1 dX2_admit_107 rfl (lv_at hl 4 rfl) ?_
                  refine lv_i2l (v := (u4).toInt64) S.1 S.2.1 dX2_admit_108 rfl ?_
                  have hq : nn (yf (addM σ (mf (xn σ 0) a1 a2) 0) 5 (a2).toNatClampNeg ((1 : Int32))) = nn (addM σ (mf (xn σ 0) a1 a2) 0) := by simp only [nn, xn_yz, xn_yf, xn_yg, xn_ym, xn_yb, xn_yc, xn_ye]
                  have hle : nn σ ≤ nn (yf (addM σ (mf (xn σ 0) a1 a2) 0) 5 (a2).toNatClampNeg ((1 : Int32))) := hq ▸ hle
                  refine W.cs (cells' := cst σ (yf (addM σ (mf (xn σ 0) a1 a2) 0) 5 (a2).toNatClampNeg ((1 : Int32)))) (slots' := sst σ (yf (addM σ (mf (xn σ 0) a1 a2) 0) 5 (a2).toNatClampNeg ((1 : Int32)))) (cst_eq hq) (sst_eq hq) ?_
                  obtain ⟨u13, hu13, hF⟩ := bd_of hF
                  refine xe_v (k := 3) (As := [.ref (aM ((xn σ 0))), .int ((0 : Int32)), .long ((u4).toInt64)]) (rest := []) (cC_Cl_write l D ad cA kk A aM aC aE X hu13) (xr_RX2 hW) S hle hW (gd_V m_538 m_539 m_540 m_27 m_541) (by decide +kernel) ⟨Nat.le_of_ble_eq_true rfl, Nat.le_of_ble_eq_true rfl⟩ rfl hl.1 rfl (Nat.le_of_ble_eq_true rfl) dX2_admit_109 (fun aE H locs hW hle => ?_)
                  obtain rfl := Option.some.inj hF
                  exact Ju12 _ _ _ ⟨lv_sub hl [0] rfl, ⟨aE, hW, hle⟩⟩
            · have hF := it_neg hc hF
              refine lv_iconst (v := (-1 : Int32)) S.1 S.2.1 dX2_admit_62 (by decide) ?_
              obtain rfl := Option.some.inj hF
              exact er_i S hr hlk trivial hle hW rfl dX2_admit_63
        · have hF := hX
          refine lv_if_eq (tgt := 41) S.1 S.2.1 dX2_admit_34 (by decide) (fun hc => ?_) (fun hc => ?_)
          · have hF := it_pos hc hF
            refine lv_aload_n S.1 S.2.1 dX2_admit_41 rfl (lv_at hl 0 rfl) ?_
            refine lv_iconst (v := (3 : Int32)) S.1 S.2.1 dX2_admit_42 (by decide) ?_
            obtain ⟨u5, hu5, hF⟩ := bd_of hF
            refine xc_i (k := 1) (As := [.int ((3 : Int32))]) (rest := []) (cC_Cl_inForceNow l D ad cA kk A aM aC aE X hu5) (xr_RX2 hW) S hW (gd_V m_520 m_521 m_522 m_27 m_523) (by decide +kernel) ⟨Nat.le_of_ble_eq_true rfl, Nat.le_of_ble_eq_true rfl⟩ rfl hl.1 rfl (Nat.le_of_ble_eq_true rfl) ⟨cs_c hle hW.2.2.1, cs_s hle hW.2.2.1⟩ dX2_admit_43 (fun H locs hW => ?_)
            obtain rfl := Option.some.inj hF
            exact Ju4 _ _ _ ⟨lv_sub hl [0, 1, 2] rfl, ⟨aE, hW, hle⟩⟩
          · have hF := it_neg hc hF
            refine lv_iconst (v := (0 : Int32)) S.1 S.2.1 dX2_admit_37 (by decide) ?_
            refine lv_goto (tgt := 46) S.1 S.2.1 dX2_admit_38 (by decide) ?_
            obtain rfl := Option.some.inj hF
            exact Ju4 _ _ _ ⟨lv_sub hl [0, 1, 2] rfl, ⟨aE, hW, hle⟩⟩
      · have hF := it_neg hc hF
        refine lv_iconst (v := (-1 : Int32)) S.1 S.2.1 dX2_admit_26 (by decide) ?_
        obtain rfl := Option.some.inj hF
        exact er_i S hr hlk trivial hle hW rfl dX2_admit_27
def fC_Cl_beginNextMonth_L35 : Nat → Int32 → SC → Option (SC)
  | 0, _, _ => none
  | n + 1, x1, σ =>
    if (nI (xn σ 0)) ≤ x1 then
    some ((σ))
    else
    if x1 < 0 ∨ xn σ 0 ≤ (x1).toNatClampNeg then none else
    fC_Cl_beginNextMonth_L35 n ((x1 + (1 : Int32))) (ym σ 7 ((x1).toNatClampNeg) ((0 : Int32)))
def fC_Cl_beginNextMonth (σ : SC) : Option (SC) :=
  if 61 ≤ xn (yz σ 6 (((xz σ 6) + (1 : Int32)))) 1 then none else
  Option.bind (fC_Cl_beginNextMonth_L35 1000 ((0 : Int32)) (yNow (addC (yz σ 6 (((xz σ 6) + (1 : Int32)))) (fun _ => 0)) (xn (yz σ 6 (((xz σ 6) + (1 : Int32)))) 1))) (fun u2 =>
  some u2)
set_option maxRecDepth 100000 in
set_option maxHeartbeats 4000000 in
theorem cC_Cl_beginNextMonth (l : Launch) (D : va_G) (ad : Nat → Nat) (cA : Nat → ClassId) (kk : Nat → Nat) (A : Nat → Prop) (aM aC aE : Nat → Nat) (X : va_W) {σ : SC} {o : SC} (hF : fC_Cl_beginNextMonth σ = some o) : MvE GA l yX2_beginNextMonth cX2_beginNextMonth 2 7 191 [.ref (ad 8)] D ad cA kk A aM aC aE X σ o := by
  refine Mg.of (own := RX2) rfl (by decide +kernel) (Nat.le_of_ble_eq_true rfl) ?_
  intro p e s m args below meth c ls S hr hlk hP hl
  have hW := CW.start hP
  have hle : nn σ ≤ nn σ := Nat.le_refl _
  refine W.cs (cells' := cst σ σ) (slots' := sst σ σ) (cst_0 σ).symm (sst_0 σ).symm ?_
  have hl : lv_has ls 2 [(0, .ref (ad 8))] := hl
  rw [fC_Cl_beginNextMonth] at hF
  refine lv_aload_n S.1 S.2.1 dX2_beginNextMonth_0 rfl (lv_at hl 0 rfl) ?_
  refine lv_dup S.1 S.2.1 dX2_beginNextMonth_1 rfl ?_
  refine xg_X2_57 S hW dX2_beginNextMonth_2 ?_
  refine lv_iconst (v := (1 : Int32)) S.1 S.2.1 dX2_beginNextMonth_5 (by decide) ?_
  refine lv_iadd S.1 S.2.1 dX2_beginNextMonth_6 ?_
  refine xp_X2_57 S hW dX2_beginNextMonth_7 (fun H locs hW => ?_)
  have hq : nn (yz σ 6 (((xz σ 6) + (1 : Int32)))) = nn σ := by simp only [nn, xn_yz, xn_yf, xn_yg, xn_ym, xn_yb, xn_yc, xn_ye]
  have hle : nn σ ≤ nn (yz σ 6 (((xz σ 6) + (1 : Int32)))) := hq ▸ hle
  refine W.cs (cells' := cst σ (yz σ 6 (((xz σ 6) + (1 : Int32))))) (slots' := sst σ (yz σ 6 (((xz σ 6) + (1 : Int32))))) (cst_eq hq) (sst_eq hq) ?_
  obtain ⟨h1, hF⟩ := gd_of hF
  refine bnm_new S ⟨Nat.le_of_ble_eq_true rfl, Nat.le_of_ble_eq_true rfl⟩ hle hW h1 (lv_sub hl [0] rfl) (fun aC H locs hW hle => ?_)
  refine lv_iconst (v := (0 : Int32)) S.1 S.2.1 dX2_beginNextMonth_33 (by decide) ?_
  refine lv_istore_n (lv' := [(1, .int ((0 : Int32))), (0, .ref (ad 8))]) S.1 S.2.1 dX2_beginNextMonth_34 rfl hl (by decide) rfl (fun ls hl => ?_)
  obtain ⟨u2, hX, hF⟩ := bd_of hF
  refine jnE (cst σ u2) (sst σ u2) (fun H locs ls => lv_has ls 2 [] ∧ EW D ad cA kk A aM aC X σ u2 s H locs) 67 [] (fun H locs ls hJ => ?_) (fun Ju2 => ?_)
  · obtain ⟨hl, hW⟩ := hJ
    obtain ⟨aE, hW, hle⟩ := hW
    obtain rfl := Option.some.inj hF
    exact er_v S hr hlk trivial hle hW dX2_beginNextMonth_67
  · refine lpE (fun (xu2 : Int32 × SC) => cst σ xu2.2) (fun (xu2 : Int32 × SC) => sst σ xu2.2) (fun (xu2 : Int32 × SC) H locs ls => lv_has ls 2 [(0, .ref (ad 8)), (1, .int xu2.1)] ∧ EW D ad cA kk A aM aC X σ xu2.2 s H locs) 35 (fun n xu2 => fC_Cl_beginNextMonth_L35 n xu2.1 xu2.2) u2 (fun _ => rfl) (fun n xu2 ihu2 hF H locs ls hJ => ?_) 1000 ((0 : Int32), yNow (addC (yz σ 6 (((xz σ 6) + (1 : Int32)))) (fun _ => 0)) (xn (yz σ 6 (((xz σ 6) + (1 : Int32)))) 1)) hX _ _ _ ⟨lv_sub hl [1, 0] rfl, ⟨aE, hW, hle⟩⟩
    obtain ⟨hl, hW⟩ := hJ
    obtain ⟨aE, hW, hle⟩ := hW
    have hF : fC_Cl_beginNextMonth_L35 (n + 1) xu2.1 xu2.2 = some u2 := hF
    rw [fC_Cl_beginNextMonth_L35] at hF
    refine lv_iload_n S.1 S.2.1 dX2_beginNextMonth_35 rfl (lv_at hl 1 rfl) ?_
    refine lv_aload_n S.1 S.2.1 dX2_beginNextMonth_36 rfl (lv_at hl 0 rfl) ?_
    refine xg_X2_32 S hW dX2_beginNextMonth_37 ?_
    refine xsz_0 S hW (gd_V m_516 m_517 m_518 m_72 m_519) ⟨Nat.le_of_ble_eq_true rfl, Nat.le_of_ble_eq_true rfl⟩ hl.1 (Nat.le_of_ble_eq_true rfl) ⟨cs_c hle hW.2.2.1, cs_s hle hW.2.2.1⟩ dX2_beginNextMonth_40 ?_
    refine lv_icmp_ge (tgt := 67) S.1 S.2.1 dX2_beginNextMonth_43 (by decide) (fun hc => ?_) (fun hc => ?_)
    · have hF := it_pos hc hF
      obtain rfl := Option.some.inj hF
      exact Ju2 _ _ _ ⟨lv_sub hl [] rfl, ⟨aE, hW, hle⟩⟩
    · have hF := it_neg hc hF
      refine lv_aload_n S.1 S.2.1 dX2_beginNextMonth_46 rfl (lv_at hl 0 rfl) ?_
      refine xg_X2_32 S hW dX2_beginNextMonth_47 ?_
      refine lv_iload_n S.1 S.2.1 dX2_beginNextMonth_50 rfl (lv_at hl 1 rfl) ?_
      obtain ⟨h4, hF⟩ := gd_of hF
      refine xgt_0 h4 S hW (gd_V m_579 m_580 m_581 m_72 m_582) ⟨Nat.le_of_ble_eq_true rfl, Nat.le_of_ble_eq_true rfl⟩ hl.1 (Nat.le_of_ble_eq_true rfl) ⟨cs_c hle hW.2.2.1, cs_s hle hW.2.2.1⟩ dX2_beginNextMonth_51 ?_
      refine xcast_M S hW (Nat.lt_of_not_le (fun q => h4 (Or.inr q))) m_510 dX2_beginNextMonth_54 ?_
      refine lv_iconst (v := (0 : Int32)) S.1 S.2.1 dX2_beginNextMonth_57 (by decide) ?_
      refine xp_X2_126 S hW (Nat.lt_of_not_le (fun q => h4 (Or.inr q))) dX2_beginNextMonth_58 (fun H locs hW => ?_)
      refine lv_iinc (v := (xu2.1 + (1 : Int32))) (lv' := [(1, .int ((xu2.1 + (1 : Int32)))), (0, .ref (ad 8))]) S.1 S.2.1 dX2_beginNextMonth_61 hl (k := 1) rfl rfl (by decide) rfl (fun ls hl => ?_)
      refine lv_goto (tgt := 35) S.1 S.2.1 dX2_beginNextMonth_64 (by decide) ?_
      have hq : nn (ym xu2.2 7 ((xu2.1).toNatClampNeg) ((0 : Int32))) = nn xu2.2 := by simp only [nn, xn_yz, xn_yf, xn_yg, xn_ym, xn_yb, xn_yc, xn_ye]
      have hle : nn σ ≤ nn (ym xu2.2 7 ((xu2.1).toNatClampNeg) ((0 : Int32))) := hq ▸ hle
      refine W.cs (cells' := cst σ (ym xu2.2 7 ((xu2.1).toNatClampNeg) ((0 : Int32)))) (slots' := sst σ (ym xu2.2 7 ((xu2.1).toNatClampNeg) ((0 : Int32)))) (cst_eq hq) (sst_eq hq) ?_
      exact ihu2 ((xu2.1 + (1 : Int32)), ym xu2.2 7 ((xu2.1).toNatClampNeg) ((0 : Int32))) hF _ _ _ ⟨lv_sub hl [1, 0] rfl, ⟨aE, hW, hle⟩⟩
def fC_Cl_endMonth (σ : SC) : Option (Int32 × SC) :=
  if (60 : Int32) ≤ (xz σ 6) then
  some ((-1 : Int32), σ)
  else
  Option.bind (fC_Le_roomLeft σ) (fun u1 =>
  if (200 : Int32) ≤ u1 then
  Option.bind (fC_Cl_takeBackRefused σ) (fun u2 =>
  Option.bind (fC_Cl_sendChoice u2) (fun u3 =>
  if xn u3 1 ≤ (xn u3 3) then none else
  Option.bind (fC_Cl_judgeDebts u3) (fun u5 =>
  Option.bind (fC_Cl_beginNextMonth u5) (fun u6 =>
  some ((xc u3 3 ((xn u3 3))), u6)))))
  else
  some ((-1 : Int32), σ))
set_option maxRecDepth 100000 in
set_option maxHeartbeats 4000000 in
theorem cC_Cl_endMonth (l : Launch) (D : va_G) (ad : Nat → Nat) (cA : Nat → ClassId) (kk : Nat → Nat) (A : Nat → Prop) (aM aC aE : Nat → Nat) (X : va_W) {σ : SC} {o : Int32 × SC} (hF : fC_Cl_endMonth σ = some o) : MiE GA l yX2_endMonth cX2_endMonth 2 11 288 [.ref (ad 8)] D ad cA kk A aM aC aE X σ o.1 o.2 := by
  refine Mg.of (own := RX2) rfl (by decide +kernel) (Nat.le_of_ble_eq_true rfl) ?_
  intro p e s m args below meth c ls S hr hlk hP hl
  have hW := CW.start hP
  have hle : nn σ ≤ nn σ := Nat.le_refl _
  refine W.cs (cells' := cst σ σ) (slots' := sst σ σ) (cst_0 σ).symm (sst_0 σ).symm ?_
  have hl : lv_has ls 2 [(0, .ref (ad 8))] := hl
  rw [fC_Cl_endMonth] at hF
  refine lv_aload_n S.1 S.2.1 dX2_endMonth_0 rfl (lv_at hl 0 rfl) ?_
  refine xg_X2_57 S hW dX2_endMonth_1 ?_
  refine lv_bipush (v := (60 : Int32)) S.1 S.2.1 dX2_endMonth_4 (by decide) ?_
  refine lv_icmp_ge (tgt := 22) S.1 S.2.1 dX2_endMonth_6 (by decide) (fun hc => ?_) (fun hc => ?_)
  · have hF := it_pos hc hF
    refine lv_iconst (v := (-1 : Int32)) S.1 S.2.1 dX2_endMonth_22 (by decide) ?_
    obtain rfl := Option.some.inj hF
    exact er_i S hr hlk trivial hle hW rfl dX2_endMonth_23
  · have hF := it_neg hc hF
    refine lv_aload_n S.1 S.2.1 dX2_endMonth_9 rfl (lv_at hl 0 rfl) ?_
    refine xg_X2_42 S hW dX2_endMonth_10 ?_
    obtain ⟨u1, hu1, hF⟩ := bd_of hF
    refine xc_i (k := 0) (As := []) (rest := []) (cC_Le_roomLeft l D ad cA kk A aM aC aE X hu1) (xr_RX5 hW) S hW (gd_V m_525 m_526 m_527 m_77 m_528) (by decide +kernel) ⟨Nat.le_of_ble_eq_true rfl, Nat.le_of_ble_eq_true rfl⟩ rfl hl.1 rfl (Nat.le_of_ble_eq_true rfl) ⟨cs_c hle hW.2.2.1, cs_s hle hW.2.2.1⟩ dX2_endMonth_13 (fun H locs hW => ?_)
    refine lv_sipush (v := (200 : Int32)) S.1 S.2.1 dX2_endMonth_16 (by decide) ?_
    refine lv_icmp_ge (tgt := 24) S.1 S.2.1 dX2_endMonth_19 (by decide) (fun hc => ?_) (fun hc => ?_)
    · have hF := it_pos hc hF
      refine lv_aload_n S.1 S.2.1 dX2_endMonth_24 rfl (lv_at hl 0 rfl) ?_
      obtain ⟨u2, hu2, hF⟩ := bd_of hF
      refine xe_v (k := 0) (As := []) (rest := []) (cC_Cl_takeBackRefused l D ad cA kk A aM aC aE X hu2) (xr_RX2 hW) S hle hW (gd_V m_713 m_714 m_715 m_27 m_716) (by decide +kernel) ⟨Nat.le_of_ble_eq_true rfl, Nat.le_of_ble_eq_true rfl⟩ rfl hl.1 rfl (Nat.le_of_ble_eq_true rfl) dX2_endMonth_25 (fun aE H locs hW hle => ?_)
      refine lv_aload_n S.1 S.2.1 dX2_endMonth_28 rfl (lv_at hl 0 rfl) ?_
      obtain ⟨u3, hu3, hF⟩ := bd_of hF
      refine xe_v (k := 0) (As := []) (rest := []) (cC_Cl_sendChoice l D ad cA kk A aM aC aE X hu3) (xr_RX2 hW) S hle hW (gd_V m_731 m_732 m_733 m_27 m_734) (by decide +kernel) ⟨Nat.le_of_ble_eq_true rfl, Nat.le_of_ble_eq_true rfl⟩ rfl hl.1 rfl (Nat.le_of_ble_eq_true rfl) dX2_endMonth_29 (fun aE H locs hW hle => ?_)
      refine lv_aload_n S.1 S.2.1 dX2_endMonth_32 rfl (lv_at hl 0 rfl) ?_
      refine xg_X2_49 S hW dX2_endMonth_33 ?_
      obtain ⟨h4, hF⟩ := gd_of hF
      refine xg_X2_138 S hW (Nat.lt_of_not_le h4) dX2_endMonth_36 ?_
      refine lv_istore_n (lv' := [(1, .int ((xc u3 3 ((xn u3 3))))), (0, .ref (ad 8))]) S.1 S.2.1 dX2_endMonth_39 rfl hl (by decide) rfl (fun ls hl => ?_)
      refine lv_aload_n S.1 S.2.1 dX2_endMonth_40 rfl (lv_at hl 1 rfl) ?_
      obtain ⟨u5, hu5, hF⟩ := bd_of hF
      refine xc_v (k := 0) (As := []) (rest := []) (cC_Cl_judgeDebts l D ad cA kk A aM aC aE X hu5) (xr_RX2 hW) S hW (gd_V m_756 m_757 m_758 m_27 m_759) (by decide +kernel) ⟨Nat.le_of_ble_eq_true rfl, Nat.le_of_ble_eq_true rfl⟩ rfl hl.1 rfl (Nat.le_of_ble_eq_true rfl) ⟨cs_c hle hW.2.2.1, cs_s hle hW.2.2.1⟩ dX2_endMonth_41 (fun H locs hW => ?_)
      have nu5 := nC_Cl_judgeDebts hu5
      refine lv_aload_n S.1 S.2.1 dX2_endMonth_44 rfl (lv_at hl 1 rfl) ?_
      have hq : nn u5 = nn u3 := by simp only [nn, xn_yz, xn_yf, xn_yg, xn_ym, xn_yb, xn_yc, xn_ye, nu5]
      have hle : nn σ ≤ nn u5 := hq ▸ hle
      refine W.cs (cells' := cst σ u5) (slots' := sst σ u5) (cst_eq hq) (sst_eq hq) ?_
      obtain ⟨u6, hu6, hF⟩ := bd_of hF
      refine xa_v (k := 0) (As := []) (rest := []) (cC_Cl_beginNextMonth l D ad cA kk A aM aC aE X hu6) (xr_RX2 hW) S hle hW (gd_V m_763 m_764 m_765 m_27 m_766) (by decide +kernel) ⟨Nat.le_of_ble_eq_true rfl, Nat.le_of_ble_eq_true rfl⟩ rfl hl.1 rfl (Nat.le_of_ble_eq_true rfl) dX2_endMonth_45 (fun aM aC aE H locs hW hle => ?_)
      refine lv_iload_n S.1 S.2.1 dX2_endMonth_48 rfl (lv_at hl 0 rfl) ?_
      obtain rfl := Option.some.inj hF
      exact er_i S hr hlk trivial hle hW rfl dX2_endMonth_49
    · have hF := it_neg hc hF
      refine lv_iconst (v := (-1 : Int32)) S.1 S.2.1 dX2_endMonth_22 (by decide) ?_
      obtain rfl := Option.some.inj hF
      exact er_i S hr hlk trivial hle hW rfl dX2_endMonth_23
def fC_B_join (σ : SC) (a1 : Int32) (a2 : Int32) : Option (Int32 × SC) :=
  Option.bind (fC_Cl_admit σ a1 a2) (fun u1 =>
  some (u1.1, u1.2))
set_option maxRecDepth 100000 in
set_option maxHeartbeats 4000000 in
theorem cC_B_join (l : Launch) (D : va_G) (ad : Nat → Nat) (cA : Nat → ClassId) (kk : Nat → Nat) (A : Nat → Prop) (aM aC aE : Nat → Nat) (X : va_W) {σ : SC} {a1 : Int32} {a2 : Int32} {o : Int32 × SC} (hF : fC_B_join σ a1 a2 = some o) : MiE GA l yX10_join cX10_join 3 10 264 [.ref (ad 0), .int a1, .int a2] D ad cA kk A aM aC aE X σ o.1 o.2 := by
  refine Mg.of (own := RX10) rfl (by decide +kernel) (Nat.le_of_ble_eq_true rfl) ?_
  intro p e s m args below meth c ls S hr hlk hP hl
  have hW := CW.start hP
  have hle : nn σ ≤ nn σ := Nat.le_refl _
  refine W.cs (cells' := cst σ σ) (slots' := sst σ σ) (cst_0 σ).symm (sst_0 σ).symm ?_
  have hl : lv_has ls 3 [(0, .ref (ad 0)), (1, .int a1), (2, .int a2)] := hl
  rw [fC_B_join] at hF
  refine lv_aload_n S.1 S.2.1 dX10_join_0 rfl (lv_at hl 0 rfl) ?_
  refine xg_X10_37 S hW dX10_join_1 ?_
  refine lv_iload_n S.1 S.2.1 dX10_join_4 rfl (lv_at hl 1 rfl) ?_
  refine lv_iload_n S.1 S.2.1 dX10_join_5 rfl (lv_at hl 2 rfl) ?_
  obtain ⟨u1, hu1, hF⟩ := bd_of hF
  refine xa_i (k := 2) (As := [.int a1, .int a2]) (rest := []) (cC_Cl_admit l D ad cA kk A aM aC aE X hu1) (xr_RX2 hW) S hle hW (gd_V m_506 m_507 m_508 m_27 m_509) (by decide +kernel) ⟨Nat.le_of_ble_eq_true rfl, Nat.le_of_ble_eq_true rfl⟩ rfl hl.1 rfl (Nat.le_of_ble_eq_true rfl) dX10_join_6 (fun aM aC aE H locs hW hle => ?_)
  obtain rfl := Option.some.inj hF
  exact er_i S hr hlk trivial hle hW rfl dX10_join_9
def fC_B_pay (σ : SC) (a1 : Int32) (a2 : Int32) : Option (Int64 × SC) :=
  Option.bind (fC_Cl_findMember σ a1) (fun u1 =>
  onull u1
  (Option.bind (fC_Cl_receive σ none a2) (fun u2 =>
  some (u2.1, u2.2)))
  (fun iu1 =>
  Option.bind (fC_Cl_receive σ (some iu1) a2) (fun u3 =>
  some (u3.1, u3.2))))
set_option maxRecDepth 100000 in
set_option maxHeartbeats 4000000 in
theorem cC_B_pay (l : Launch) (D : va_G) (ad : Nat → Nat) (cA : Nat → ClassId) (kk : Nat → Nat) (A : Nat → Prop) (aM aC aE : Nat → Nat) (X : va_W) {σ : SC} {a1 : Int32} {a2 : Int32} {o : Int64 × SC} (hF : fC_B_pay σ a1 a2 = some o) : MlE (GE aM aC) l yX10_pay cX10_pay 3 10 262 [.ref (ad 0), .int a1, .int a2] D ad cA kk A aM aC aE X σ o.1 o.2 := by
  refine Mg.of (own := RX10) rfl (by decide +kernel) (Nat.le_of_ble_eq_true rfl) ?_
  intro p e s m args below meth c ls S hr hlk hP hl
  have hW := CW.start hP
  have hle : nn σ ≤ nn σ := Nat.le_refl _
  refine W.cs (cells' := cst σ σ) (slots' := sst σ σ) (cst_0 σ).symm (sst_0 σ).symm ?_
  have hl : lv_has ls 3 [(0, .ref (ad 0)), (1, .int a1), (2, .int a2)] := hl
  rw [fC_B_pay] at hF
  refine lv_aload_n S.1 S.2.1 dX10_pay_0 rfl (lv_at hl 0 rfl) ?_
  refine xg_X10_37 S hW dX10_pay_1 ?_
  refine lv_aload_n S.1 S.2.1 dX10_pay_4 rfl (lv_at hl 0 rfl) ?_
  refine xg_X10_37 S hW dX10_pay_5 ?_
  refine lv_iload_n S.1 S.2.1 dX10_pay_8 rfl (lv_at hl 1 rfl) ?_
  obtain ⟨u1, hu1, hF⟩ := bd_of hF
  refine xc_o (k := 1) (As := [.int a1]) (rest := [.ref (ad 8)]) (cC_Cl_findMember l D ad cA kk A aM aC aE X hu1) (xr_RX2 hW) S hW (gd_V m_574 m_575 m_576 m_27 m_577) (by decide +kernel) ⟨Nat.le_of_ble_eq_true rfl, Nat.le_of_ble_eq_true rfl⟩ rfl hl.1 rfl (Nat.le_of_ble_eq_true rfl) ⟨cs_c hle hW.2.2.1, cs_s hle hW.2.2.1⟩ dX10_pay_9 (fun H locs hW => ?_)
  rcases on_of hF with ⟨he, hF⟩ | ⟨iu1, he, hF⟩
  · refine W.eq (g2 := F0 m 12 ls (.null :: [.ref (ad 8)])) (by rw [he]; rfl) ?_
    refine lv_iload_n S.1 S.2.1 dX10_pay_12 rfl (lv_at hl 2 rfl) ?_
    obtain ⟨u2, hu2, hF⟩ := bd_of hF
    refine xe_l (k := 2) (As := [.null, .int a2]) (rest := []) (cC_Cl_receive l D ad cA kk A aM aC aE X hu2) (xr_RX2 hW) S hle hW (gd_V m_608 m_609 m_610 m_27 m_611) (by decide +kernel) ⟨Nat.le_of_ble_eq_true rfl, Nat.le_of_ble_eq_true rfl⟩ rfl hl.1 rfl (Nat.le_of_ble_eq_true rfl) dX10_pay_13 (fun aE H locs hW hle => ?_)
    obtain rfl := Option.some.inj hF
    exact er_l S hr hlk ⟨rfl, rfl⟩ hle hW rfl dX10_pay_16
  · refine W.eq (g2 := F0 m 12 ls (.ref (aM iu1) :: [.ref (ad 8)])) (by rw [he]; rfl) ?_
    refine lv_iload_n S.1 S.2.1 dX10_pay_12 rfl (lv_at hl 2 rfl) ?_
    obtain ⟨u3, hu3, hF⟩ := bd_of hF
    refine xe_l (k := 2) (As := [.ref (aM iu1), .int a2]) (rest := []) (cC_Cl_receive l D ad cA kk A aM aC aE X hu3) (xr_RX2 hW) S hle hW (gd_V m_608 m_609 m_610 m_27 m_611) (by decide +kernel) ⟨Nat.le_of_ble_eq_true rfl, Nat.le_of_ble_eq_true rfl⟩ rfl hl.1 rfl (Nat.le_of_ble_eq_true rfl) dX10_pay_13 (fun aE H locs hW hle => ?_)
    obtain rfl := Option.some.inj hF
    exact er_l S hr hlk ⟨rfl, rfl⟩ hle hW rfl dX10_pay_16
def fC_B_leave (σ : SC) (a1 : Int32) : Option (Int64 × SC) :=
  Option.bind (fC_Cl_findMember σ a1) (fun u1 =>
  onull u1
  (Option.bind (fC_Cl_dismiss σ none) (fun u2 =>
  some (u2.1, u2.2)))
  (fun iu1 =>
  Option.bind (fC_Cl_dismiss σ (some iu1)) (fun u3 =>
  some (u3.1, u3.2))))
set_option maxRecDepth 100000 in
set_option maxHeartbeats 4000000 in
theorem cC_B_leave (l : Launch) (D : va_G) (ad : Nat → Nat) (cA : Nat → ClassId) (kk : Nat → Nat) (A : Nat → Prop) (aM aC aE : Nat → Nat) (X : va_W) {σ : SC} {a1 : Int32} {o : Int64 × SC} (hF : fC_B_leave σ a1 = some o) : MlE (GE aM aC) l yX10_leave cX10_leave 2 10 263 [.ref (ad 0), .int a1] D ad cA kk A aM aC aE X σ o.1 o.2 := by
  refine Mg.of (own := RX10) rfl (by decide +kernel) (Nat.le_of_ble_eq_true rfl) ?_
  intro p e s m args below meth c ls S hr hlk hP hl
  have hW := CW.start hP
  have hle : nn σ ≤ nn σ := Nat.le_refl _
  refine W.cs (cells' := cst σ σ) (slots' := sst σ σ) (cst_0 σ).symm (sst_0 σ).symm ?_
  have hl : lv_has ls 2 [(0, .ref (ad 0)), (1, .int a1)] := hl
  rw [fC_B_leave] at hF
  refine lv_aload_n S.1 S.2.1 dX10_leave_0 rfl (lv_at hl 0 rfl) ?_
  refine xg_X10_37 S hW dX10_leave_1 ?_
  refine lv_aload_n S.1 S.2.1 dX10_leave_4 rfl (lv_at hl 0 rfl) ?_
  refine xg_X10_37 S hW dX10_leave_5 ?_
  refine lv_iload_n S.1 S.2.1 dX10_leave_8 rfl (lv_at hl 1 rfl) ?_
  obtain ⟨u1, hu1, hF⟩ := bd_of hF
  refine xc_o (k := 1) (As := [.int a1]) (rest := [.ref (ad 8)]) (cC_Cl_findMember l D ad cA kk A aM aC aE X hu1) (xr_RX2 hW) S hW (gd_V m_574 m_575 m_576 m_27 m_577) (by decide +kernel) ⟨Nat.le_of_ble_eq_true rfl, Nat.le_of_ble_eq_true rfl⟩ rfl hl.1 rfl (Nat.le_of_ble_eq_true rfl) ⟨cs_c hle hW.2.2.1, cs_s hle hW.2.2.1⟩ dX10_leave_9 (fun H locs hW => ?_)
  rcases on_of hF with ⟨he, hF⟩ | ⟨iu1, he, hF⟩
  · refine W.eq (g2 := F0 m 12 ls (.null :: [.ref (ad 8)])) (by rw [he]; rfl) ?_
    obtain ⟨u2, hu2, hF⟩ := bd_of hF
    refine xe_l (k := 1) (As := [.null]) (rest := []) (cC_Cl_dismiss l D ad cA kk A aM aC aE X hu2) (xr_RX2 hW) S hle hW (gd_V m_641 m_642 m_643 m_27 m_644) (by decide +kernel) ⟨Nat.le_of_ble_eq_true rfl, Nat.le_of_ble_eq_true rfl⟩ rfl hl.1 rfl (Nat.le_of_ble_eq_true rfl) dX10_leave_12 (fun aE H locs hW hle => ?_)
    obtain rfl := Option.some.inj hF
    exact er_l S hr hlk ⟨rfl, rfl⟩ hle hW rfl dX10_leave_15
  · refine W.eq (g2 := F0 m 12 ls (.ref (aM iu1) :: [.ref (ad 8)])) (by rw [he]; rfl) ?_
    obtain ⟨u3, hu3, hF⟩ := bd_of hF
    refine xe_l (k := 1) (As := [.ref (aM iu1)]) (rest := []) (cC_Cl_dismiss l D ad cA kk A aM aC aE X hu3) (xr_RX2 hW) S hle hW (gd_V m_641 m_642 m_643 m_27 m_644) (by decide +kernel) ⟨Nat.le_of_ble_eq_true rfl, Nat.le_of_ble_eq_true rfl⟩ rfl hl.1 rfl (Nat.le_of_ble_eq_true rfl) dX10_leave_12 (fun aE H locs hW hle => ?_)
    obtain rfl := Option.some.inj hF
    exact er_l S hr hlk ⟨rfl, rfl⟩ hle hW rfl dX10_leave_15
def fC_B_close (σ : SC) : Option (Int32 × SC) :=
  Option.bind (fC_Cl_endMonth σ) (fun u1 =>
  some (u1.1, u1.2))
set_option maxRecDepth 100000 in
set_option maxHeartbeats 4000000 in
theorem cC_B_close (l : Launch) (D : va_G) (ad : Nat → Nat) (cA : Nat → ClassId) (kk : Nat → Nat) (A : Nat → Prop) (aM aC aE : Nat → Nat) (X : va_W) {σ : SC} {o : Int32 × SC} (hF : fC_B_close σ = some o) : MiE GA l yX10_close cX10_close 1 12 309 [.ref (ad 0)] D ad cA kk A aM aC aE X σ o.1 o.2 := by
  refine Mg.of (own := RX10) rfl (by decide +kernel) (Nat.le_of_ble_eq_true rfl) ?_
  intro p e s m args below meth c ls S hr hlk hP hl
  have hW := CW.start hP
  have hle : nn σ ≤ nn σ := Nat.le_refl _
  refine W.cs (cells' := cst σ σ) (slots' := sst σ σ) (cst_0 σ).symm (sst_0 σ).symm ?_
  have hl : lv_has ls 1 [(0, .ref (ad 0))] := hl
  rw [fC_B_close] at hF
  refine lv_aload_n S.1 S.2.1 dX10_close_0 rfl (lv_at hl 0 rfl) ?_
  refine xg_X10_37 S hW dX10_close_1 ?_
  obtain ⟨u1, hu1, hF⟩ := bd_of hF
  refine xa_i (k := 0) (As := []) (rest := []) (cC_Cl_endMonth l D ad cA kk A aM aC aE X hu1) (xr_RX2 hW) S hle hW (gd_V m_709 m_710 m_711 m_27 m_712) (by decide +kernel) ⟨Nat.le_of_ble_eq_true rfl, Nat.le_of_ble_eq_true rfl⟩ rfl hl.1 rfl (Nat.le_of_ble_eq_true rfl) dX10_close_4 (fun aM aC aE H locs hW hle => ?_)
  obtain rfl := Option.some.inj hF
  exact er_i S hr hlk trivial hle hW rfl dX10_close_7
