theorem ccells_app {ad aM aC aE : Nat → Nat} {cA : Nat → ClassId} {lm : Nat → Int32} {la lc : Nat → Nat} {lr : Nat → Nat → Option Nat} {X Y : va_W} {σ : SC} : ccells ad aM aC aE cA lm la lc lr X σ ++ Y = ccells ad aM aC aE cA lm la lc lr (X ++ Y) σ := by unfold ccells; simp only [List.append_assoc]
def ef (a b : Int32) (k : Nat) : Int32 := if k = 1 then a else if k = 2 then b else if k = 4 then -1 else 0
theorem nI_lt900 {n : Nat} (h : n ≤ 900) (hc : nI n < (900 : Int32)) : n < 900 := by
  rcases Nat.lt_or_ge n 900 with h1 | h1
  · exact h1
  · obtain rfl : n = 900 := by omega
    exact absurd hc (by decide)
section PR
variable {A : Nat → Prop} {D : va_G} {ad aM aC aE : Nat → Nat} {cA : Nat → ClassId} {kk : Nat → Nat} {X : va_W} {σ : SC} {lm : Nat → Int32} {la lc : Nat → Nat} {lr : Nat → Nat → Option Nat}
theorem hdat_of {a : Nat → Nat} {ws : va_W} {n k0 q j : Nat} {e : Nat × List Value} (hD : va_D A ws) (hk : ws[k0]? = some (q, .inr e)) (hL : LI (kk 41) a n (la j) (lc j) (lr j)) (hd : lc j ≠ 0 → ∃ kd : Nat, ws[kd]? = some (la j, .inl (cA 30, lc j, .inr (.inr (.inr (.inr (lr j))))))) : (n = 0 ∧ la j = kk 41) ∨ (0 < n ∧ la j ≠ q ∧ ∃ kd : Nat, ws[kd]? = some (la j, .inl (cA 30, capOf n, .inr (.inr (.inr (.inr (lr j))))))) := by
  by_cases h0 : lc j = 0
  · exact Or.inl ⟨capOf_zero (by rw [← hL.1]; exact h0), hL.2.1 h0⟩
  · obtain ⟨kd, hkd⟩ := hd h0
    refine Or.inr ⟨Nat.pos_of_ne_zero (fun e => h0 (by rw [hL.1, e]; rfl)), fun e1 => ?_, kd, by rw [← hL.1]; exact hkd⟩
    have := hD.1 kd k0 _ _ hkd hk e1
    rw [this, hk] at hkd
    cases hkd
theorem hel_of {a : Nat → Nat} {ws : va_W} {n k0 q j ci : Nat} {e : Nat × List Value} {r : vw_C} (hD : va_D A ws) (hk : ws[k0]? = some (q, .inr e)) (hL : LI (kk 41) a n (la j) (lc j) (lr j)) (hci : vwCl[ci]? = some r) (hca : Cond.castable r.1 "java/lang/Object" ∈ nwl) (hat : ∀ i, i < n → ∃ (k : Nat) (fs : List Value), k ≠ k0 ∧ ws[k]? = some (a i, .inr (ci, fs))) : ∀ i, i < n → ∀ y, lr j i = some y → Elm ws y ∧ y ≠ q := by
  intro i hi y hy
  obtain ⟨k, fs, hne, h1⟩ := hat i hi
  have e1 : y = a i := by rw [hL.2.2 i hi] at hy; exact (Option.some.inj hy).symm
  subst e1
  exact ⟨⟨k, ci, fs, r, h1, hci, hca⟩, fun e2 => hne (hD.1 k k0 _ _ h1 hk e2)⟩
end PR
def fC_Le_write (σ : SC) (a1 : Nat) (a2 a3 : Int32) (a4 : Int64) : Option SC :=
  if lg_cmp a4 0 = 0 then some σ else if nI (xn σ 2) < (900 : Int32) then (if xn σ 0 ≤ a1 then none else some (yb (addE σ a1 (ef a2 a3) a4) a1 (xb σ a1 + a4))) else some σ
set_option maxRecDepth 100000 in
set_option maxHeartbeats 4000000 in
theorem cC_Le_write (l : Launch) (D : va_G) (ad : Nat → Nat) (cA : Nat → ClassId) (kk : Nat → Nat) (A : Nat → Prop) (aM aC aE : Nat → Nat) (X : va_W) {σ : SC} {a1 : Nat} {a2 a3 : Int32} {a4 : Int64} {o : SC} (hF : fC_Le_write σ a1 a2 a3 a4 = some o) : MvE (GE aM aC) l yX5_write cX5_write 6 7 191 [.ref (ad 13), .ref (aM a1), .int a2, .int a3, .long a4] D ad cA kk A aM aC aE X σ o := by
  refine Mg.of (own := RX5) rfl (by decide +kernel) (Nat.le_of_ble_eq_true rfl) ?_
  intro p e s m args below meth c ls S hr hlk hP hl
  have hW := CW.start hP
  have hl : lv_has ls 6 [(0, .ref (ad 13)), (1, .ref (aM a1)), (2, .int a2), (3, .int a3), (4, .long a4)] := hl
  rw [fC_Le_write] at hF
  refine lv_lload S.1 S.2.1 dX5_write_0 (lv_at hl 4 rfl) ?_
  refine lv_lconst (v := (0 : Int64)) S.1 S.2.1 dX5_write_2 (by decide) ?_
  refine W.lcmp S.1 S.2.1 dX5_write_3 ?_
  refine lv_if_eq (tgt := 20) S.1 S.2.1 dX5_write_4 (by decide) (fun hc => ?_) (fun hc => ?_)
  · have hF := it_pos hc hF
    obtain rfl := Option.some.inj hF
    refine W.cs (cells' := cst σ σ) (slots' := sst σ σ) (cst_0 σ).symm (sst_0 σ).symm ?_
    exact er_v S hr hlk ⟨rfl, rfl⟩ (Nat.le_refl _) hW dX5_write_20
  · have hF := it_neg hc hF
    refine lv_aload_n S.1 S.2.1 dX5_write_7 rfl (lv_at hl 0 rfl) ?_
    refine xg_X5_10 S hW dX5_write_8 ?_
    refine xsz_2 S hW (gd_V m_529 m_517 m_518 m_72 m_519) ⟨Nat.le_of_ble_eq_true rfl, Nat.le_of_ble_eq_true rfl⟩ hl.1 (Nat.le_of_ble_eq_true rfl) ⟨Nat.zero_le _, Nat.zero_le _⟩ dX5_write_11 ?_
    refine lv_sipush (v := (900 : Int32)) S.1 S.2.1 dX5_write_14 (by decide) ?_
    refine lv_icmp_lt (tgt := 21) S.1 S.2.1 dX5_write_17 (by decide) (fun hc => ?_) (fun hc => ?_)
    · have hF := it_pos hc hF
      obtain ⟨hi, hF⟩ := gd_of hF
      obtain rfl := Option.some.inj hF
      have hi : a1 < xn σ 0 := Nat.lt_of_not_le hi
      refine lv_aload_n S.1 S.2.1 dX5_write_21 rfl (lv_at hl 0 rfl) ?_
      refine xg_X5_10 S hW dX5_write_22 ?_
      obtain ⟨⟨lm, la, lc, lr, hP, hD, hL0, hL1, hL2⟩, hE, hF, hS⟩ := hW
      have hn9 := nI_lt900 hF.2.2.2.2 hc
      have hroom : nn σ + 1 ≤ 1001 := by have := hF.2.2.1; have := hF.2.2.2.1; unfold nn; omega
      refine va_new (D := D) (ci := 4) (C := RX3) (T := TX3) (N := 5) S.1 S.2.1 S.2.2.2.2 inX3 tyX3 tyX3_ok S.2.2.2.1 (S.2.2.2.2 _ m_546) (S.2.2.2.2 _ m_547) (S.2.2.2.2 _ m_548) hE.1 hP hD hS hE.2.2.2 rfl (fs := [.null, .int 0, .int 0, .long 0, .int 0]) (by decide) (by show 0 + 1 ≤ 2 * (1001 - nn σ); omega) (by show 0 + 5 ≤ 1300 * (1001 - nn σ); omega) dX5_write_25 (fun q H hP hD hS => ?_)
      refine lv_dup S.1 S.2.1 dX5_write_28 rfl ?_
      refine lv_aload_n S.1 S.2.1 dX5_write_29 rfl (lv_at hl 1 rfl) ?_
      refine lv_iload_n S.1 S.2.1 dX5_write_30 rfl (lv_at hl 2 rfl) ?_
      refine lv_iload_n S.1 S.2.1 dX5_write_31 rfl (lv_at hl 3 rfl) ?_
      refine lv_lload S.1 S.2.1 dX5_write_32 (lv_at hl 4 rfl) ?_
      refine va_callv (va_runI (As := [.ref (aM a1), .int a2, .int a3, .long a4]) (rest := [.ref q, .ref (ad 14)]) (n := 4) S (cG_initE l D (ctys cA) A kk _ (a1 := aM a1) (a2 := a2) (a3 := a3) (a4 := a4) (at_last (ccells ad aM aC aE cA lm la lc lr X σ) _)) (cwI 4 S.2.2.2.2 (gd_I m_551) rfl rfl rfl (S.2.2.2.2 _ m_548) (S.2.2.2.2 _ m_549) (S.2.2.2.2 _ m_550) rfl (by decide +kernel) ⟨Nat.le_of_ble_eq_true rfl, Nat.le_of_ble_eq_true rfl⟩) ⟨fun a U g mk q => ⟨q.1, q.2.same⟩, fun U hU hw => ⟨rfl, GW.of hP hD hE.1 hE.2.1 hE.2.2.1 hE.2.2.2 hS hU hw⟩⟩ rfl rfl hl.1 rfl (lv_room (Nat.le_of_ble_eq_true rfl)) dX5_write_34 ⟨by show 0 + 1 + 0 ≤ 2 * (1001 - nn σ); omega, by show 0 + 5 + 0 ≤ 1300 * (1001 - nn σ); omega⟩) hS (fun q _ h => h) (fun _ h => h) ?_
      intro u t H1 locs1 ht hvm _ hB _ _ hS
      obtain ⟨hP, hD, -⟩ := hB
      rw [ht, set_last, ccells_app] at hP
      rw [set_last, ccells_app] at hD
      have hP : va_P D vwCl (ccells ad aM aC aE cA lm la lc lr (X ++ [(q, .inr (4, [.ref (aM a1), .int (ef a2 a3 1), .int (ef a2 a3 2), .long a4, .int (ef a2 a3 4)]))]) σ) H1 := hP
      have hD : va_D A (ccells ad aM aC aE cA lm la lc lr (X ++ [(q, .inr (4, [.ref (aM a1), .int (ef a2 a3 1), .int (ef a2 a3 2), .long a4, .int (ef a2 a3 4)]))]) σ) := hD
      have hx : (ccells ad aM aC aE cA lm la lc lr (X ++ [(q, .inr (4, [.ref (aM a1), .int (ef a2 a3 1), .int (ef a2 a3 2), .long a4, .int (ef a2 a3 4)]))]) σ)[(ccells ad aM aC aE cA lm la lc lr X σ).length]? = some (q, .inr (4, [.ref (aM a1), .int (ef a2 a3 1), .int (ef a2 a3 2), .long a4, .int (ef a2 a3 4)])) := by rw [← ccells_app]; exact at_last _ _
      have hk : (ccells ad aM aC aE cA lm la lc lr (X ++ [(q, .inr (4, [.ref (aM a1), .int (ef a2 a3 1), .int (ef a2 a3 2), .long a4, .int (ef a2 a3 4)]))]) σ)[14]? = some (ad 14, .inr (0, [.int (lm 2), .ref (la 2), .int (nI (xn σ 2))])) := rfl
      have hxq : q ≠ ad 14 := fun e2 => by
        have h14 := hD.1 _ _ _ _ hx hk e2
        rw [h14, hk] at hx
        cases hx
      have hel := hel_of (j := 2) hD hk hL2 (ci := 4) rfl nw_72 (fun i hi => ⟨_, _, (fun e2 => by omega), ce_at hi⟩)
      have hdat := hdat_of (j := 2) hD hk hL2 (fun h => cd_at2 h)
      refine va_calli (va_runV (As := [.ref q]) (rest := []) (n := 1) S (cG_addU l D (ctys cA) A kk _ (t0 := 11) hk hx hxq rfl nw_72 rfl (by omega) hdat hel) (cwV 1 S.2.2.2.2 (gd_V m_558 m_114 m_115 m_72 m_116) rfl rfl rfl (by decide +kernel) ⟨Nat.le_of_ble_eq_true rfl, Nat.le_of_ble_eq_true rfl⟩) ⟨fun a U g mk q => ⟨q.1, q.2.same⟩, va_recv hE.1 hP (ci := 0) rfl hk, fun U hU hw => ⟨rfl, GW.of hP hD hE.1 hE.2.1 hE.2.2.1 hE.2.2.2 hS hU hw⟩⟩ rfl rfl hl.1 rfl (lv_room (Nat.le_of_ble_eq_true rfl)) dX5_write_37 ⟨by show 0 + 1 + 0 + 1 ≤ 2 * (1001 - nn σ); omega, by show 0 + 5 + 0 + 1240 ≤ 1300 * (1001 - nn σ); omega⟩) hS (fun q _ h => h) (fun _ h => h) ?_
      intro r u t H1 locs1 ht hvm hw hB _ _ hS
      obtain ⟨rfl, hG, hr1, hr2⟩ := hw
      have hCI := ci_addE (D := D) (H := H1) (s := s) (w := a1) (f := ef a2 a3) hD (by rw [← ht]; exact hB.1) hB.2.1 hE.2.1.empty hL0 hL1 hL2 hG hr1 hr2
      refine lv_pop S.1 S.2.1 dX5_write_40 rfl ?_
      have hW : CW D ad cA kk A aM aC (va_up aE (xn σ 2) q) X (addE σ a1 (ef a2 a3) a4) s H1 locs1 := by
        refine ⟨hCI, hE, ⟨fun i hi2 => ?_, hF.2.1, hF.2.2.1, hF.2.2.2.1, hn9⟩, hS⟩
        show va_up (xo σ) (xn σ 2) a1 i < xn σ 0
        by_cases e2 : i = xn σ 2
        · rw [e2, va_up_self]; exact hi
        · rw [va_up_ne _ _ e2]; exact hF.1 i (by have : i < xn σ 2 + 1 := hi2; omega)
      refine lv_aload_n S.1 S.2.1 dX5_write_41 rfl (lv_at hl 1 rfl) ?_
      refine lv_dup S.1 S.2.1 dX5_write_42 rfl ?_
      refine xg_X5_39 S hW (show a1 < xn (addE σ a1 (ef a2 a3) a4) 0 from hi) dX5_write_43 ?_
      refine lv_lload S.1 S.2.1 dX5_write_46 (lv_at hl 4 rfl) ?_
      refine lv_ladd S.1 S.2.1 dX5_write_48 ?_
      refine xp_X5_39 S hW (show a1 < xn (addE σ a1 (ef a2 a3) a4) 0 from hi) dX5_write_49 (fun H locs hW => ?_)
      have hnn : nn (yb (addE σ a1 (ef a2 a3) a4) a1 (xb σ a1 + a4)) = nn σ + 1 := rfl
      refine W.widen (k := cst σ (yb (addE σ a1 (ef a2 a3) a4) a1 (xb σ a1 + a4))) (n := sst σ (yb (addE σ a1 (ef a2 a3) a4) a1 (xb σ a1 + a4))) (by show 0 + 1 + 0 + 1 ≤ 2 * (nn σ + 1 - nn σ); omega) (by show 0 + 5 + 0 + 1240 ≤ 1300 * (nn σ + 1 - nn σ); omega) ?_
      exact er_v S hr hlk ⟨rfl, rfl⟩ (by rw [hnn]; omega) hW dX5_write_52
    · have hF := it_neg hc hF
      obtain rfl := Option.some.inj hF
      refine W.cs (cells' := cst σ σ) (slots' := sst σ σ) (cst_0 σ).symm (sst_0 σ).symm ?_
      exact er_v S hr hlk ⟨rfl, rfl⟩ (Nat.le_refl _) hW dX5_write_20
