def fC_En_strikeOut (σ : SC) (a0 : Nat) (a1 : Int32) : Option (Int32 × SC) :=
  if xn σ 2 ≤ a0 then none else
  if (xe σ 4 a0) = (-1 : Int32) then
  if xn σ 0 ≤ (xo (ye σ 4 a0 a1) a0) then none else
  some ((1 : Int32), yb (ye σ 4 a0 a1) ((xo (ye σ 4 a0 a1) a0)) (((xb (ye σ 4 a0 a1) ((xo (ye σ 4 a0 a1) a0))) - (xa (ye σ 4 a0 a1) a0))))
  else
  some ((0 : Int32), σ)
set_option maxRecDepth 100000 in
set_option maxHeartbeats 4000000 in
theorem cC_En_strikeOut (l : Launch) (D : va_G) (ad : Nat → Nat) (cA : Nat → ClassId) (kk : Nat → Nat) (A : Nat → Prop) (aM aC aE : Nat → Nat) (X : va_W) {σ : SC} {a0 : Nat} {a1 : Int32} {o : Int32 × SC} (hF : fC_En_strikeOut σ a0 a1 = some o) : Mi l yX3_strikeOut cX3_strikeOut 2 .boolean { frames := 0, cells := 0, slots := 0, locals := 0 } [.ref (aE a0), .int a1] (CP D ad cA kk A aM aC aE X σ) o.1 (CP D ad cA kk A aM aC aE X (o.2)) A := by
  refine Mi.of (own := RX3) rfl (by decide +kernel) (Nat.le_of_ble_eq_true rfl) ?_
  intro p e s m args below meth c ls S hr hlk hP hl
  have hW := CW.start hP
  have hl : lv_has ls 2 [(0, .ref (aE a0)), (1, .int a1)] := hl
  rw [fC_En_strikeOut] at hF
  refine lv_aload_n S.1 S.2.1 dX3_strikeOut_0 rfl (lv_at hl 0 rfl) ?_
  obtain ⟨h1, hF⟩ := gd_of hF
  refine xg_X3_26 S hW (Nat.lt_of_not_le h1) dX3_strikeOut_1 ?_
  refine lv_iconst (v := (-1 : Int32)) S.1 S.2.1 dX3_strikeOut_4 (by decide) ?_
  refine lv_icmp_eq (tgt := 10) S.1 S.2.1 dX3_strikeOut_5 (by decide) (fun hc => ?_) (fun hc => ?_)
  · have hF := it_pos hc hF
    refine lv_aload_n S.1 S.2.1 dX3_strikeOut_10 rfl (lv_at hl 0 rfl) ?_
    refine lv_iload_n S.1 S.2.1 dX3_strikeOut_11 rfl (lv_at hl 1 rfl) ?_
    refine xp_X3_26 S hW (Nat.lt_of_not_le h1) dX3_strikeOut_12 (fun H locs hW => ?_)
    refine lv_aload_n S.1 S.2.1 dX3_strikeOut_15 rfl (lv_at hl 0 rfl) ?_
    refine xg_X3_9 S hW (Nat.lt_of_not_le h1) dX3_strikeOut_16 ?_
    refine lv_dup S.1 S.2.1 dX3_strikeOut_19 rfl ?_
    obtain ⟨h2, hF⟩ := gd_of hF
    refine xg_X3_29 S hW (Nat.lt_of_not_le h2) dX3_strikeOut_20 ?_
    refine lv_aload_n S.1 S.2.1 dX3_strikeOut_23 rfl (lv_at hl 0 rfl) ?_
    refine xg_X3_22 S hW (Nat.lt_of_not_le h1) dX3_strikeOut_24 ?_
    refine lv_lsub S.1 S.2.1 dX3_strikeOut_27 ?_
    refine xp_X3_29 S hW (Nat.lt_of_not_le h2) dX3_strikeOut_28 (fun H locs hW => ?_)
    refine lv_iconst (v := (1 : Int32)) S.1 S.2.1 dX3_strikeOut_31 (by decide) ?_
    obtain rfl := Option.some.inj hF
    exact xr_i S hr hlk hW rfl rfl dX3_strikeOut_32
  · have hF := it_neg hc hF
    refine lv_iconst (v := (0 : Int32)) S.1 S.2.1 dX3_strikeOut_8 (by decide) ?_
    obtain rfl := Option.some.inj hF
    exact xr_i S hr hlk hW rfl rfl dX3_strikeOut_9
def fC_En_isStruckBy (σ : SC) (a0 : Nat) (a1 : Int32) : Option (Int32) :=
  if xn σ 2 ≤ a0 then none else
  if (xe σ 4 a0) = (-1 : Int32) then
  some ((0 : Int32))
  else
  if a1 < (xe σ 4 a0) then
  some ((0 : Int32))
  else
  some ((1 : Int32))
set_option maxRecDepth 100000 in
set_option maxHeartbeats 4000000 in
theorem cC_En_isStruckBy (l : Launch) (D : va_G) (ad : Nat → Nat) (cA : Nat → ClassId) (kk : Nat → Nat) (A : Nat → Prop) (aM aC aE : Nat → Nat) (X : va_W) {σ : SC} {a0 : Nat} {a1 : Int32} {o : Int32} (hF : fC_En_isStruckBy σ a0 a1 = some o) : Mi l yX3_isStruckBy cX3_isStruckBy 2 .boolean { frames := 0, cells := 0, slots := 0, locals := 0 } [.ref (aE a0), .int a1] (CP D ad cA kk A aM aC aE X σ) o (CP D ad cA kk A aM aC aE X σ) A := by
  refine Mi.of (own := RX3) rfl (by decide +kernel) (Nat.le_of_ble_eq_true rfl) ?_
  intro p e s m args below meth c ls S hr hlk hP hl
  have hW := CW.start hP
  have hl : lv_has ls 2 [(0, .ref (aE a0)), (1, .int a1)] := hl
  rw [fC_En_isStruckBy] at hF
  refine lv_aload_n S.1 S.2.1 dX3_isStruckBy_0 rfl (lv_at hl 0 rfl) ?_
  obtain ⟨h1, hF⟩ := gd_of hF
  refine xg_X3_26 S hW (Nat.lt_of_not_le h1) dX3_isStruckBy_1 ?_
  refine lv_iconst (v := (-1 : Int32)) S.1 S.2.1 dX3_isStruckBy_4 (by decide) ?_
  refine lv_icmp_eq (tgt := 20) S.1 S.2.1 dX3_isStruckBy_5 (by decide) (fun hc => ?_) (fun hc => ?_)
  · have hF := it_pos hc hF
    refine lv_iconst (v := (0 : Int32)) S.1 S.2.1 dX3_isStruckBy_20 (by decide) ?_
    obtain rfl := Option.some.inj hF
    exact xr_i S hr hlk hW rfl rfl dX3_isStruckBy_21
  · have hF := it_neg hc hF
    refine lv_aload_n S.1 S.2.1 dX3_isStruckBy_8 rfl (lv_at hl 0 rfl) ?_
    refine xg_X3_26 S hW (Nat.lt_of_not_le h1) dX3_isStruckBy_9 ?_
    refine lv_iload_n S.1 S.2.1 dX3_isStruckBy_12 rfl (lv_at hl 1 rfl) ?_
    refine lv_icmp_gt (tgt := 20) S.1 S.2.1 dX3_isStruckBy_13 (by decide) (fun hc => ?_) (fun hc => ?_)
    · have hF := it_pos hc hF
      refine lv_iconst (v := (0 : Int32)) S.1 S.2.1 dX3_isStruckBy_20 (by decide) ?_
      obtain rfl := Option.some.inj hF
      exact xr_i S hr hlk hW rfl rfl dX3_isStruckBy_21
    · have hF := it_neg hc hF
      refine lv_iconst (v := (1 : Int32)) S.1 S.2.1 dX3_isStruckBy_16 (by decide) ?_
      refine lv_goto (tgt := 21) S.1 S.2.1 dX3_isStruckBy_17 (by decide) ?_
      obtain rfl := Option.some.inj hF
      exact xr_i S hr hlk hW rfl rfl dX3_isStruckBy_21
def fC_Ch_setPercent (σ : SC) (a1 : Int32) (a2 : Int32) : Option (Int32 × SC) :=
  Option.bind (fC_Ch_isKind a1) (fun u1 =>
  if u1 = 0 then
  some ((0 : Int32), σ)
  else
  Option.bind (fC_isWithin a2 ((0 : Int32)) ((100 : Int32))) (fun u2 =>
  if u2 = 0 then
  some ((0 : Int32), σ)
  else
  if a1 < 0 ∨ 4 ≤ (a1).toNatClampNeg then none else
  some ((1 : Int32), yf σ 6 (a1).toNatClampNeg a2)))
set_option maxRecDepth 100000 in
set_option maxHeartbeats 4000000 in
theorem cC_Ch_setPercent (l : Launch) (D : va_G) (ad : Nat → Nat) (cA : Nat → ClassId) (kk : Nat → Nat) (A : Nat → Prop) (aM aC aE : Nat → Nat) (X : va_W) {σ : SC} {a1 : Int32} {a2 : Int32} {o : Int32 × SC} (hF : fC_Ch_setPercent σ a1 a2 = some o) : Mi l yX0_setPercent cX0_setPercent 3 .boolean { frames := 2, cells := 0, slots := 0, locals := 42 } [.ref (ad 15), .int a1, .int a2] (CP D ad cA kk A aM aC aE X σ) o.1 (CP D ad cA kk A aM aC aE X (o.2)) A := by
  refine Mi.of (own := RX0) rfl (by decide +kernel) (Nat.le_of_ble_eq_true rfl) ?_
  intro p e s m args below meth c ls S hr hlk hP hl
  have hW := CW.start hP
  have hl : lv_has ls 3 [(0, .ref (ad 15)), (1, .int a1), (2, .int a2)] := hl
  rw [fC_Ch_setPercent] at hF
  refine lv_iload_n S.1 S.2.1 dX0_setPercent_0 rfl (lv_at hl 1 rfl) ?_
  obtain ⟨u1, hu1, hF⟩ := bd_of hF
  refine kc_s (k := 1) (As := [.int a1]) (rest := []) (cC_Ch_isKind l hu1) (fun U hU hw => (hW.2.1.2.2.1).warm hw) (fun _ _ _ _ h => h.same) S (gd_S m_879 m_514 m_31 m_515) rfl rfl (by decide +kernel) ⟨Nat.le_of_ble_eq_true rfl, Nat.le_of_ble_eq_true rfl⟩ rfl hl.1 rfl (Nat.le_of_ble_eq_true rfl) ⟨Nat.le_of_ble_eq_true rfl, Nat.le_of_ble_eq_true rfl⟩ dX0_setPercent_1 ?_
  refine lv_if_eq (tgt := 17) S.1 S.2.1 dX0_setPercent_4 (by decide) (fun hc => ?_) (fun hc => ?_)
  · have hF := it_pos hc hF
    refine lv_iconst (v := (0 : Int32)) S.1 S.2.1 dX0_setPercent_17 (by decide) ?_
    obtain rfl := Option.some.inj hF
    exact xr_i S hr hlk hW rfl rfl dX0_setPercent_18
  · have hF := it_neg hc hF
    refine lv_iload_n S.1 S.2.1 dX0_setPercent_7 rfl (lv_at hl 2 rfl) ?_
    refine lv_iconst (v := (0 : Int32)) S.1 S.2.1 dX0_setPercent_8 (by decide) ?_
    refine lv_bipush (v := (100 : Int32)) S.1 S.2.1 dX0_setPercent_9 (by decide) ?_
    obtain ⟨u2, hu2, hF⟩ := bd_of hF
    refine sc_iN (k := 3) (As := [.int a2, .int ((0 : Int32)), .int ((100 : Int32))]) (rest := []) (cC_isWithin l hu2) S hW.2.1.2.2.1 nw_24 m_242 m_2 m_243 rfl rfl (by decide +kernel) ⟨Nat.le_of_ble_eq_true rfl, Nat.le_of_ble_eq_true rfl⟩ rfl hl.1 rfl (Nat.le_of_ble_eq_true rfl) ⟨Nat.le_of_ble_eq_true rfl, Nat.le_of_ble_eq_true rfl⟩ dX0_setPercent_11 ?_
    refine lv_if_ne (tgt := 19) S.1 S.2.1 dX0_setPercent_14 (by decide) (fun hc => ?_) (fun hc => ?_)
    · have hF := it_neg hc hF
      refine lv_aload_n S.1 S.2.1 dX0_setPercent_19 rfl (lv_at hl 0 rfl) ?_
      refine xg_X0_9 S hW dX0_setPercent_20 ?_
      refine lv_iload_n S.1 S.2.1 dX0_setPercent_23 rfl (lv_at hl 1 rfl) ?_
      refine lv_iload_n S.1 S.2.1 dX0_setPercent_24 rfl (lv_at hl 2 rfl) ?_
      obtain ⟨h3, hF⟩ := gd_of hF
      refine xs_16 S hW h3 dX0_setPercent_25 (fun H locs hW => ?_)
      refine lv_iconst (v := (1 : Int32)) S.1 S.2.1 dX0_setPercent_26 (by decide) ?_
      obtain rfl := Option.some.inj hF
      exact xr_i S hr hlk hW rfl rfl dX0_setPercent_27
    · have hF := it_pos hc hF
      refine lv_iconst (v := (0 : Int32)) S.1 S.2.1 dX0_setPercent_17 (by decide) ?_
      obtain rfl := Option.some.inj hF
      exact xr_i S hr hlk hW rfl rfl dX0_setPercent_18
def fC_Ch_addOne_L8 (l1 : Int32) (l2 : Int32) : Nat → Int32 → SC → Option (SC)
  | 0, _, _ => none
  | n + 1, x3, σ =>
    if x3 ≤ 0 then
    some ((σ))
    else
    if x3 < 0 ∨ 9 ≤ (x3).toNatClampNeg then none else
    if (x3 - (1 : Int32)) < 0 ∨ 9 ≤ ((x3 - (1 : Int32))).toNatClampNeg then none else
    fC_Ch_addOne_L8 l1 l2 n ((x3 + (-1 : Int32))) (yg σ (x3).toNatClampNeg ((((xg σ (x3).toNatClampNeg) * (l2).toInt64) + ((xg σ ((x3 - (1 : Int32))).toNatClampNeg) * (l1).toInt64))))
def fC_Ch_addOne (σ : SC) (a1 : Int32) : Option (SC) :=
  Option.bind (fC_Ch_addOne_L8 a1 (((100 : Int32) - a1)) 1000 ((8 : Int32)) σ) (fun u1 =>
  if (0 : Int32) < 0 ∨ 9 ≤ ((0 : Int32)).toNatClampNeg then none else
  some (yg u1 ((0 : Int32)).toNatClampNeg (((xg u1 ((0 : Int32)).toNatClampNeg) * (((100 : Int32) - a1)).toInt64))))
set_option maxRecDepth 100000 in
set_option maxHeartbeats 4000000 in
theorem cC_Ch_addOne (l : Launch) (D : va_G) (ad : Nat → Nat) (cA : Nat → ClassId) (kk : Nat → Nat) (A : Nat → Prop) (aM aC aE : Nat → Nat) (X : va_W) {σ : SC} {a1 : Int32} {o : SC} (hF : fC_Ch_addOne σ a1 = some o) : Mv l yX0_addOne cX0_addOne 4 { frames := 0, cells := 0, slots := 0, locals := 0 } [.ref (ad 15), .int a1] (CP D ad cA kk A aM aC aE X σ) (CP D ad cA kk A aM aC aE X o) A := by
  refine Mv.of (own := RX0) rfl (by decide +kernel) (Nat.le_of_ble_eq_true rfl) ?_
  intro p e s m args below meth c ls S hr hlk hP hl _
  have hW := CW.start hP
  have hl : lv_has ls 4 [(0, .ref (ad 15)), (1, .int a1)] := hl
  rw [fC_Ch_addOne] at hF
  refine lv_bipush (v := (100 : Int32)) S.1 S.2.1 dX0_addOne_0 (by decide) ?_
  refine lv_iload_n S.1 S.2.1 dX0_addOne_2 rfl (lv_at hl 1 rfl) ?_
  refine lv_isub S.1 S.2.1 dX0_addOne_3 ?_
  refine lv_istore_n (lv' := [(2, .int (((100 : Int32) - a1))), (0, .ref (ad 15)), (1, .int a1)]) S.1 S.2.1 dX0_addOne_4 rfl hl (by decide) rfl (fun ls hl => ?_)
  refine lv_bipush (v := (8 : Int32)) S.1 S.2.1 dX0_addOne_5 (by decide) ?_
  refine lv_istore_n (lv' := [(3, .int ((8 : Int32))), (2, .int (((100 : Int32) - a1))), (0, .ref (ad 15)), (1, .int a1)]) S.1 S.2.1 dX0_addOne_7 rfl hl (by decide) rfl (fun ls hl => ?_)
  obtain ⟨u1, hX, hF⟩ := bd_of hF
  refine jn1 (fun H locs ls => lv_has ls 4 [(0, .ref (ad 15)), (2, .int (((100 : Int32) - a1)))] ∧ CW D ad cA kk A aM aC aE X u1 s H locs) 45 [] (fun H locs ls hJ => ?_) (fun Ju1 => ?_)
  · obtain ⟨hl, hW⟩ := hJ
    refine lv_aload_n S.1 S.2.1 dX0_addOne_45 rfl (lv_at hl 0 rfl) ?_
    refine xg_X0_19 S hW dX0_addOne_46 ?_
    refine lv_iconst (v := (0 : Int32)) S.1 S.2.1 dX0_addOne_49 (by decide) ?_
    refine lv_dup2_11 S.1 S.2.1 dX0_addOne_50 rfl rfl ?_
    obtain ⟨h5, hF⟩ := gd_of hF
    refine xl_17 S hW h5 dX0_addOne_51 ?_
    refine lv_iload_n S.1 S.2.1 dX0_addOne_52 rfl (lv_at hl 1 rfl) ?_
    refine lv_i2l (v := (((100 : Int32) - a1)).toInt64) S.1 S.2.1 dX0_addOne_53 rfl ?_
    refine lv_lmul S.1 S.2.1 dX0_addOne_54 ?_
    refine xs_17 S hW h5 dX0_addOne_55 (fun H locs hW => ?_)
    obtain rfl := Option.some.inj hF
    exact xr_v S hr hlk hW dX0_addOne_56
  · refine lpW (fun (xu1 : Int32 × SC) H locs ls => lv_has ls 4 [(0, .ref (ad 15)), (1, .int a1), (2, .int (((100 : Int32) - a1))), (3, .int xu1.1)] ∧ CW D ad cA kk A aM aC aE X xu1.2 s H locs) 8 (fun n xu1 => fC_Ch_addOne_L8 a1 (((100 : Int32) - a1)) n xu1.1 xu1.2) u1 (fun _ => rfl) (fun n xu1 ihu1 hF H locs ls hJ => ?_) 1000 ((8 : Int32), σ) hX _ _ _ ⟨lv_sub hl [2, 3, 1, 0] rfl, hW⟩
    obtain ⟨hl, hW⟩ := hJ
    have hF : fC_Ch_addOne_L8 a1 (((100 : Int32) - a1)) (n + 1) xu1.1 xu1.2 = some u1 := hF
    rw [fC_Ch_addOne_L8] at hF
    refine lv_iload_n S.1 S.2.1 dX0_addOne_8 rfl (lv_at hl 3 rfl) ?_
    refine lv_if_le (tgt := 45) S.1 S.2.1 dX0_addOne_9 (by decide) (fun hc => ?_) (fun hc => ?_)
    · have hF := it_pos hc hF
      obtain rfl := Option.some.inj hF
      exact Ju1 _ _ _ ⟨lv_sub hl [0, 2] rfl, hW⟩
    · have hF := it_neg hc hF
      refine lv_aload_n S.1 S.2.1 dX0_addOne_12 rfl (lv_at hl 0 rfl) ?_
      refine xg_X0_19 S hW dX0_addOne_13 ?_
      refine lv_iload_n S.1 S.2.1 dX0_addOne_16 rfl (lv_at hl 3 rfl) ?_
      refine lv_aload_n S.1 S.2.1 dX0_addOne_17 rfl (lv_at hl 0 rfl) ?_
      refine xg_X0_19 S hW dX0_addOne_18 ?_
      refine lv_iload_n S.1 S.2.1 dX0_addOne_21 rfl (lv_at hl 3 rfl) ?_
      obtain ⟨h3, hF⟩ := gd_of hF
      refine xl_17 S hW h3 dX0_addOne_22 ?_
      refine lv_iload_n S.1 S.2.1 dX0_addOne_23 rfl (lv_at hl 2 rfl) ?_
      refine lv_i2l (v := (((100 : Int32) - a1)).toInt64) S.1 S.2.1 dX0_addOne_24 rfl ?_
      refine lv_lmul S.1 S.2.1 dX0_addOne_25 ?_
      refine lv_aload_n S.1 S.2.1 dX0_addOne_26 rfl (lv_at hl 0 rfl) ?_
      refine xg_X0_19 S hW dX0_addOne_27 ?_
      refine lv_iload_n S.1 S.2.1 dX0_addOne_30 rfl (lv_at hl 3 rfl) ?_
      refine lv_iconst (v := (1 : Int32)) S.1 S.2.1 dX0_addOne_31 (by decide) ?_
      refine lv_isub S.1 S.2.1 dX0_addOne_32 ?_
      obtain ⟨h4, hF⟩ := gd_of hF
      refine xl_17 S hW h4 dX0_addOne_33 ?_
      refine lv_iload_n S.1 S.2.1 dX0_addOne_34 rfl (lv_at hl 1 rfl) ?_
      refine lv_i2l (v := (a1).toInt64) S.1 S.2.1 dX0_addOne_35 rfl ?_
      refine lv_lmul S.1 S.2.1 dX0_addOne_36 ?_
      refine lv_ladd S.1 S.2.1 dX0_addOne_37 ?_
      refine xs_17 S hW h3 dX0_addOne_38 (fun H locs hW => ?_)
      refine lv_iinc (v := (xu1.1 + (-1 : Int32))) (lv' := [(3, .int ((xu1.1 + (-1 : Int32)))), (0, .ref (ad 15)), (1, .int a1), (2, .int (((100 : Int32) - a1)))]) S.1 S.2.1 dX0_addOne_39 hl (k := 3) rfl rfl (by decide) rfl (fun ls hl => ?_)
      refine lv_goto (tgt := 8) S.1 S.2.1 dX0_addOne_42 (by decide) ?_
      exact ihu1 ((xu1.1 + (-1 : Int32)), yg xu1.2 (xu1.1).toNatClampNeg ((((xg xu1.2 (xu1.1).toNatClampNeg) * (((100 : Int32) - a1)).toInt64) + ((xg xu1.2 ((xu1.1 - (1 : Int32))).toNatClampNeg) * (a1).toInt64)))) hF _ _ _ ⟨lv_sub hl [1, 2, 3, 0] rfl, hW⟩
def fC_Ch_waysOf (σ : SC) (a1 : Int32) : Option (Int64) :=
  Option.bind (fC_isWithin a1 ((0 : Int32)) ((8 : Int32))) (fun u1 =>
  if u1 = 0 then
  some ((0 : Int64))
  else
  if a1 < 0 ∨ 9 ≤ (a1).toNatClampNeg then none else
  some ((xg σ (a1).toNatClampNeg)))
set_option maxRecDepth 100000 in
set_option maxHeartbeats 4000000 in
theorem cC_Ch_waysOf (l : Launch) (D : va_G) (ad : Nat → Nat) (cA : Nat → ClassId) (kk : Nat → Nat) (A : Nat → Prop) (aM aC aE : Nat → Nat) (X : va_W) {σ : SC} {a1 : Int32} {o : Int64} (hF : fC_Ch_waysOf σ a1 = some o) : Ml l yX0_waysOf cX0_waysOf 2 { frames := 1, cells := 0, slots := 0, locals := 22 } [.ref (ad 15), .int a1] (CP D ad cA kk A aM aC aE X σ) o (CP D ad cA kk A aM aC aE X σ) A := by
  refine Ml.of (own := RX0) rfl (by decide +kernel) (Nat.le_of_ble_eq_true rfl) ?_
  intro p e s m args below meth c ls S hr hlk hP hl
  have hW := CW.start hP
  have hl : lv_has ls 2 [(0, .ref (ad 15)), (1, .int a1)] := hl
  rw [fC_Ch_waysOf] at hF
  refine lv_iload_n S.1 S.2.1 dX0_waysOf_0 rfl (lv_at hl 1 rfl) ?_
  refine lv_iconst (v := (0 : Int32)) S.1 S.2.1 dX0_waysOf_1 (by decide) ?_
  refine lv_bipush (v := (8 : Int32)) S.1 S.2.1 dX0_waysOf_2 (by decide) ?_
  obtain ⟨u1, hu1, hF⟩ := bd_of hF
  refine sc_iN (k := 3) (As := [.int a1, .int ((0 : Int32)), .int ((8 : Int32))]) (rest := []) (cC_isWithin l hu1) S hW.2.1.2.2.1 nw_24 m_242 m_2 m_243 rfl rfl (by decide +kernel) ⟨Nat.le_of_ble_eq_true rfl, Nat.le_of_ble_eq_true rfl⟩ rfl hl.1 rfl (Nat.le_of_ble_eq_true rfl) ⟨Nat.le_of_ble_eq_true rfl, Nat.le_of_ble_eq_true rfl⟩ dX0_waysOf_4 ?_
  refine lv_if_eq (tgt := 19) S.1 S.2.1 dX0_waysOf_7 (by decide) (fun hc => ?_) (fun hc => ?_)
  · have hF := it_pos hc hF
    refine lv_lconst (v := (0 : Int64)) S.1 S.2.1 dX0_waysOf_19 (by decide) ?_
    obtain rfl := Option.some.inj hF
    exact xr_l S hr hlk hW rfl dX0_waysOf_20
  · have hF := it_neg hc hF
    refine lv_aload_n S.1 S.2.1 dX0_waysOf_10 rfl (lv_at hl 0 rfl) ?_
    refine xg_X0_19 S hW dX0_waysOf_11 ?_
    refine lv_iload_n S.1 S.2.1 dX0_waysOf_14 rfl (lv_at hl 1 rfl) ?_
    obtain ⟨h2, hF⟩ := gd_of hF
    refine xl_17 S hW h2 dX0_waysOf_15 ?_
    refine lv_goto (tgt := 20) S.1 S.2.1 dX0_waysOf_16 (by decide) ?_
    obtain rfl := Option.some.inj hF
    exact xr_l S hr hlk hW rfl dX0_waysOf_20
def fC_Ch_costOf_L6 (σ : SC) (l1 : Int32) (l2 : Int32) (l3 : Int32) (l4 : Int32) : Nat → Int64 → Int32 → Option (Int64)
  | 0, _, _ => none
  | n + 1, x5, x7 =>
    if l2 < x7 then
    some ((x5))
    else
    if (8 : Int32) < x7 then
    some ((x5))
    else
    Option.bind (if l1 ≤ x7 then
    some (((x7 - l1) * l4))
    else
    some (((l1 - x7) * l3))) (fun u1 =>
    if x7 < 0 ∨ 9 ≤ (x7).toNatClampNeg then none else
    fC_Ch_costOf_L6 σ l1 l2 l3 l4 n ((x5 + ((xg σ (x7).toNatClampNeg) * (u1).toInt64))) ((x7 + (1 : Int32))))
def fC_Ch_costOf (σ : SC) (a1 : Int32) (a2 : Int32) (a3 : Int32) (a4 : Int32) : Option (Int64) :=
  Option.bind (fC_Ch_costOf_L6 σ a1 a2 a3 a4 1000 ((0 : Int64)) ((0 : Int32))) (fun u1 =>
  some u1)
set_option maxRecDepth 100000 in
set_option maxHeartbeats 4000000 in
theorem cC_Ch_costOf (l : Launch) (D : va_G) (ad : Nat → Nat) (cA : Nat → ClassId) (kk : Nat → Nat) (A : Nat → Prop) (aM aC aE : Nat → Nat) (X : va_W) {σ : SC} {a1 : Int32} {a2 : Int32} {a3 : Int32} {a4 : Int32} {o : Int64} (hF : fC_Ch_costOf σ a1 a2 a3 a4 = some o) : Ml l yX0_costOf cX0_costOf 9 { frames := 0, cells := 0, slots := 0, locals := 0 } [.ref (ad 15), .int a1, .int a2, .int a3, .int a4] (CP D ad cA kk A aM aC aE X σ) o (CP D ad cA kk A aM aC aE X σ) A := by
  refine Ml.of (own := RX0) rfl (by decide +kernel) (Nat.le_of_ble_eq_true rfl) ?_
  intro p e s m args below meth c ls S hr hlk hP hl
  have hW := CW.start hP
  have hl : lv_has ls 9 [(0, .ref (ad 15)), (1, .int a1), (2, .int a2), (3, .int a3), (4, .int a4)] := hl
  rw [fC_Ch_costOf] at hF
  refine lv_lconst (v := (0 : Int64)) S.1 S.2.1 dX0_costOf_0 (by decide) ?_
  refine lv_lstore (lv' := [(5, .long ((0 : Int64))), (0, .ref (ad 15)), (1, .int a1), (2, .int a2), (3, .int a3), (4, .int a4)]) S.1 S.2.1 dX0_costOf_1 hl (by decide) rfl (fun ls hl => ?_)
  refine lv_iconst (v := (0 : Int32)) S.1 S.2.1 dX0_costOf_3 (by decide) ?_
  refine lv_istore (lv' := [(7, .int ((0 : Int32))), (5, .long ((0 : Int64))), (0, .ref (ad 15)), (1, .int a1), (2, .int a2), (3, .int a3), (4, .int a4)]) S.1 S.2.1 dX0_costOf_4 hl (by decide) rfl (fun ls hl => ?_)
  obtain ⟨u1, hX, hF⟩ := bd_of hF
  refine jn1 (fun H locs ls => lv_has ls 9 [(5, .long u1)] ∧ CW D ad cA kk A aM aC aE X σ s H locs) 65 [] (fun H locs ls hJ => ?_) (fun Ju1 => ?_)
  · obtain ⟨hl, hW⟩ := hJ
    refine lv_lload S.1 S.2.1 dX0_costOf_65 (lv_at hl 0 rfl) ?_
    obtain rfl := Option.some.inj hF
    exact xr_l S hr hlk hW rfl dX0_costOf_67
  · refine lpW (fun (xu1 : Int64 × Int32) H locs ls => lv_has ls 9 [(0, .ref (ad 15)), (1, .int a1), (2, .int a2), (3, .int a3), (4, .int a4), (5, .long xu1.1), (7, .int xu1.2)] ∧ CW D ad cA kk A aM aC aE X σ s H locs) 6 (fun n xu1 => fC_Ch_costOf_L6 σ a1 a2 a3 a4 n xu1.1 xu1.2) u1 (fun _ => rfl) (fun n xu1 ihu1 hF H locs ls hJ => ?_) 1000 ((0 : Int64), (0 : Int32)) hX _ _ _ ⟨lv_sub hl [2, 3, 4, 5, 6, 1, 0] rfl, hW⟩
    obtain ⟨hl, hW⟩ := hJ
    have hF : fC_Ch_costOf_L6 σ a1 a2 a3 a4 (n + 1) xu1.1 xu1.2 = some u1 := hF
    rw [fC_Ch_costOf_L6] at hF
    refine lv_iload S.1 S.2.1 dX0_costOf_6 (lv_at hl 6 rfl) ?_
    refine lv_iload_n S.1 S.2.1 dX0_costOf_8 rfl (lv_at hl 2 rfl) ?_
    refine lv_icmp_gt (tgt := 65) S.1 S.2.1 dX0_costOf_9 (by decide) (fun hc => ?_) (fun hc => ?_)
    · have hF := it_pos hc hF
      obtain rfl := Option.some.inj hF
      exact Ju1 _ _ _ ⟨lv_sub hl [5] rfl, hW⟩
    · have hF := it_neg hc hF
      refine lv_iload S.1 S.2.1 dX0_costOf_12 (lv_at hl 6 rfl) ?_
      refine lv_bipush (v := (8 : Int32)) S.1 S.2.1 dX0_costOf_14 (by decide) ?_
      refine lv_icmp_gt (tgt := 65) S.1 S.2.1 dX0_costOf_16 (by decide) (fun hc => ?_) (fun hc => ?_)
      · have hF := it_pos hc hF
        obtain rfl := Option.some.inj hF
        exact Ju1 _ _ _ ⟨lv_sub hl [5] rfl, hW⟩
      · have hF := it_neg hc hF
        refine lv_iload S.1 S.2.1 dX0_costOf_19 (lv_at hl 6 rfl) ?_
        refine lv_iload_n S.1 S.2.1 dX0_costOf_21 rfl (lv_at hl 1 rfl) ?_
        obtain ⟨u3, hX, hF⟩ := bd_of hF
        refine jn1 (fun H locs ls => lv_has ls 9 [(0, .ref (ad 15)), (1, .int a1), (2, .int a2), (3, .int a3), (4, .int a4), (5, .long xu1.1), (7, .int xu1.2)] ∧ CW D ad cA kk A aM aC aE X σ s H locs) 41 [.int u3] (fun H locs ls hJ => ?_) (fun Ju3 => ?_)
        · obtain ⟨hl, hW⟩ := hJ
          refine lv_istore (lv' := [(8, .int u3), (0, .ref (ad 15)), (1, .int a1), (2, .int a2), (3, .int a3), (4, .int a4), (5, .long xu1.1), (7, .int xu1.2)]) S.1 S.2.1 dX0_costOf_41 hl (by decide) rfl (fun ls hl => ?_)
          refine lv_lload S.1 S.2.1 dX0_costOf_43 (lv_at hl 6 rfl) ?_
          refine lv_aload_n S.1 S.2.1 dX0_costOf_45 rfl (lv_at hl 1 rfl) ?_
          refine xg_X0_19 S hW dX0_costOf_46 ?_
          refine lv_iload S.1 S.2.1 dX0_costOf_49 (lv_at hl 7 rfl) ?_
          obtain ⟨h4, hF⟩ := gd_of hF
          refine xl_17 S hW h4 dX0_costOf_51 ?_
          refine lv_iload S.1 S.2.1 dX0_costOf_52 (lv_at hl 0 rfl) ?_
          refine lv_i2l (v := (u3).toInt64) S.1 S.2.1 dX0_costOf_54 rfl ?_
          refine lv_lmul S.1 S.2.1 dX0_costOf_55 ?_
          refine lv_ladd S.1 S.2.1 dX0_costOf_56 ?_
          refine lv_lstore (lv' := [(5, .long ((xu1.1 + ((xg σ (xu1.2).toNatClampNeg) * (u3).toInt64)))), (8, .int u3), (0, .ref (ad 15)), (1, .int a1), (2, .int a2), (3, .int a3), (4, .int a4), (7, .int xu1.2)]) S.1 S.2.1 dX0_costOf_57 hl (by decide) rfl (fun ls hl => ?_)
          refine lv_iinc (v := (xu1.2 + (1 : Int32))) (lv' := [(7, .int ((xu1.2 + (1 : Int32)))), (5, .long ((xu1.1 + ((xg σ (xu1.2).toNatClampNeg) * (u3).toInt64)))), (8, .int u3), (0, .ref (ad 15)), (1, .int a1), (2, .int a2), (3, .int a3), (4, .int a4)]) S.1 S.2.1 dX0_costOf_59 hl (k := 7) rfl rfl (by decide) rfl (fun ls hl => ?_)
          refine lv_goto (tgt := 6) S.1 S.2.1 dX0_costOf_62 (by decide) ?_
          exact ihu1 ((xu1.1 + ((xg σ (xu1.2).toNatClampNeg) * (u3).toInt64)), (xu1.2 + (1 : Int32))) hF _ _ _ ⟨lv_sub hl [3, 4, 5, 6, 7, 1, 0] rfl, hW⟩
        · have hF := hX
          refine lv_icmp_ge (tgt := 34) S.1 S.2.1 dX0_costOf_22 (by decide) (fun hc => ?_) (fun hc => ?_)
          · have hF := it_pos hc hF
            refine lv_iload S.1 S.2.1 dX0_costOf_34 (lv_at hl 6 rfl) ?_
            refine lv_iload_n S.1 S.2.1 dX0_costOf_36 rfl (lv_at hl 1 rfl) ?_
            refine lv_isub S.1 S.2.1 dX0_costOf_37 ?_
            refine lv_iload S.1 S.2.1 dX0_costOf_38 (lv_at hl 4 rfl) ?_
            refine lv_imul S.1 S.2.1 dX0_costOf_40 ?_
            obtain rfl := Option.some.inj hF
            exact Ju3 _ _ _ ⟨lv_sub hl [0, 1, 2, 3, 4, 5, 6] rfl, hW⟩
          · have hF := it_neg hc hF
            refine lv_iload_n S.1 S.2.1 dX0_costOf_25 rfl (lv_at hl 1 rfl) ?_
            refine lv_iload S.1 S.2.1 dX0_costOf_26 (lv_at hl 6 rfl) ?_
            refine lv_isub S.1 S.2.1 dX0_costOf_28 ?_
            refine lv_iload_n S.1 S.2.1 dX0_costOf_29 rfl (lv_at hl 3 rfl) ?_
            refine lv_imul S.1 S.2.1 dX0_costOf_30 ?_
            refine lv_goto (tgt := 41) S.1 S.2.1 dX0_costOf_31 (by decide) ?_
            obtain rfl := Option.some.inj hF
            exact Ju3 _ _ _ ⟨lv_sub hl [0, 1, 2, 3, 4, 5, 6] rfl, hW⟩
def fC_Ju_setMark (σ : SC) (a1 : Int32) (a2 : Int32) (a3 : Int32) : Option (Int32 × SC) :=
  Option.bind (fC_Ju_isPair a1 a2) (fun u1 =>
  if u1 = 0 then
  some ((0 : Int32), σ)
  else
  Option.bind (fC_isWithin a3 ((-1 : Int32)) ((10 : Int32))) (fun u2 =>
  if u2 = 0 then
  some ((0 : Int32), σ)
  else
  Option.bind (fCJu_placeOf a1 a2) (fun u3 =>
  if u3 < 0 ∨ 180 ≤ (u3).toNatClampNeg then none else
  some ((1 : Int32), yf σ 7 (u3).toNatClampNeg a3))))
set_option maxRecDepth 100000 in
set_option maxHeartbeats 4000000 in
theorem cC_Ju_setMark (l : Launch) (D : va_G) (ad : Nat → Nat) (cA : Nat → ClassId) (kk : Nat → Nat) (A : Nat → Prop) (aM aC aE : Nat → Nat) (X : va_W) {σ : SC} {a1 : Int32} {a2 : Int32} {a3 : Int32} {o : Int32 × SC} (hF : fC_Ju_setMark σ a1 a2 a3 = some o) : Mi l yX4_setMark cX4_setMark 4 .boolean { frames := 3, cells := 0, slots := 0, locals := 63 } [.ref (ad 18), .int a1, .int a2, .int a3] (CP D ad cA kk A aM aC aE X σ) o.1 (CP D ad cA kk A aM aC aE X (o.2)) A := by
  refine Mi.of (own := RX4) rfl (by decide +kernel) (Nat.le_of_ble_eq_true rfl) ?_
  intro p e s m args below meth c ls S hr hlk hP hl
  have hW := CW.start hP
  have hl : lv_has ls 4 [(0, .ref (ad 18)), (1, .int a1), (2, .int a2), (3, .int a3)] := hl
  rw [fC_Ju_setMark] at hF
  refine lv_iload_n S.1 S.2.1 dX4_setMark_0 rfl (lv_at hl 1 rfl) ?_
  refine lv_iload_n S.1 S.2.1 dX4_setMark_1 rfl (lv_at hl 2 rfl) ?_
  obtain ⟨u1, hu1, hF⟩ := bd_of hF
  refine kc_s (k := 2) (As := [.int a1, .int a2]) (rest := []) (cC_Ju_isPair l hu1) (fun U hU hw => (hW.2.1.2.2.1).warm hw) (fun _ _ _ _ h => h.same) S (gd_S m_952 m_953 m_35 m_954) rfl rfl (by decide +kernel) ⟨Nat.le_of_ble_eq_true rfl, Nat.le_of_ble_eq_true rfl⟩ rfl hl.1 rfl (Nat.le_of_ble_eq_true rfl) ⟨Nat.le_of_ble_eq_true rfl, Nat.le_of_ble_eq_true rfl⟩ dX4_setMark_2 ?_
  refine lv_if_eq (tgt := 18) S.1 S.2.1 dX4_setMark_5 (by decide) (fun hc => ?_) (fun hc => ?_)
  · have hF := it_pos hc hF
    refine lv_iconst (v := (0 : Int32)) S.1 S.2.1 dX4_setMark_18 (by decide) ?_
    obtain rfl := Option.some.inj hF
    exact xr_i S hr hlk hW rfl rfl dX4_setMark_19
  · have hF := it_neg hc hF
    refine lv_iload_n S.1 S.2.1 dX4_setMark_8 rfl (lv_at hl 3 rfl) ?_
    refine lv_iconst (v := (-1 : Int32)) S.1 S.2.1 dX4_setMark_9 (by decide) ?_
    refine lv_bipush (v := (10 : Int32)) S.1 S.2.1 dX4_setMark_10 (by decide) ?_
    obtain ⟨u2, hu2, hF⟩ := bd_of hF
    refine sc_iN (k := 3) (As := [.int a3, .int ((-1 : Int32)), .int ((10 : Int32))]) (rest := []) (cC_isWithin l hu2) S hW.2.1.2.2.1 nw_58 m_242 m_2 m_243 rfl rfl (by decide +kernel) ⟨Nat.le_of_ble_eq_true rfl, Nat.le_of_ble_eq_true rfl⟩ rfl hl.1 rfl (Nat.le_of_ble_eq_true rfl) ⟨Nat.le_of_ble_eq_true rfl, Nat.le_of_ble_eq_true rfl⟩ dX4_setMark_12 ?_
    refine lv_if_ne (tgt := 20) S.1 S.2.1 dX4_setMark_15 (by decide) (fun hc => ?_) (fun hc => ?_)
    · have hF := it_neg hc hF
      refine lv_aload_n S.1 S.2.1 dX4_setMark_20 rfl (lv_at hl 0 rfl) ?_
      refine xg_X4_11 S hW dX4_setMark_21 ?_
      refine lv_iload_n S.1 S.2.1 dX4_setMark_24 rfl (lv_at hl 1 rfl) ?_
      refine lv_iload_n S.1 S.2.1 dX4_setMark_25 rfl (lv_at hl 2 rfl) ?_
      obtain ⟨u3, hu3, hF⟩ := bd_of hF
      refine sc_i (k := 2) (As := [.int a1, .int a2]) (rest := [.ref (ad 19)]) (cCJu_placeOf l hu3) S (gd_S m_958 m_959 m_35 m_960) rfl rfl (by decide +kernel) ⟨Nat.le_of_ble_eq_true rfl, Nat.le_of_ble_eq_true rfl⟩ rfl hl.1 rfl (Nat.le_of_ble_eq_true rfl) ⟨Nat.le_of_ble_eq_true rfl, Nat.le_of_ble_eq_true rfl⟩ dX4_setMark_26 ?_
      refine lv_iload_n S.1 S.2.1 dX4_setMark_29 rfl (lv_at hl 3 rfl) ?_
      obtain ⟨h4, hF⟩ := gd_of hF
      refine xs_19 S hW h4 dX4_setMark_30 (fun H locs hW => ?_)
      refine lv_iconst (v := (1 : Int32)) S.1 S.2.1 dX4_setMark_31 (by decide) ?_
      obtain rfl := Option.some.inj hF
      exact xr_i S hr hlk hW rfl rfl dX4_setMark_32
    · have hF := it_pos hc hF
      refine lv_iconst (v := (0 : Int32)) S.1 S.2.1 dX4_setMark_18 (by decide) ?_
      obtain rfl := Option.some.inj hF
      exact xr_i S hr hlk hW rfl rfl dX4_setMark_19
def fC_Ju_setKin (σ : SC) (a1 : Int32) (a2 : Int32) (a3 : Int32) : Option (Int32 × SC) :=
  Option.bind (fC_Ju_isPair a1 a2) (fun u1 =>
  if u1 = 0 then
  some ((0 : Int32), σ)
  else
  Option.bind (fCJu_placeOf a1 a2) (fun u2 =>
  if u2 < 0 ∨ 180 ≤ (u2).toNatClampNeg then none else
  some ((1 : Int32), yf σ 8 (u2).toNatClampNeg ((vp_nar .boolean a3)))))
set_option maxRecDepth 100000 in
set_option maxHeartbeats 4000000 in
theorem cC_Ju_setKin (l : Launch) (D : va_G) (ad : Nat → Nat) (cA : Nat → ClassId) (kk : Nat → Nat) (A : Nat → Prop) (aM aC aE : Nat → Nat) (X : va_W) {σ : SC} {a1 : Int32} {a2 : Int32} {a3 : Int32} {o : Int32 × SC} (hF : fC_Ju_setKin σ a1 a2 a3 = some o) : Mi l yX4_setKin cX4_setKin 4 .boolean { frames := 3, cells := 0, slots := 0, locals := 63 } [.ref (ad 18), .int a1, .int a2, .int a3] (CP D ad cA kk A aM aC aE X σ) o.1 (CP D ad cA kk A aM aC aE X (o.2)) A := by
  refine Mi.of (own := RX4) rfl (by decide +kernel) (Nat.le_of_ble_eq_true rfl) ?_
  intro p e s m args below meth c ls S hr hlk hP hl
  have hW := CW.start hP
  have hl : lv_has ls 4 [(0, .ref (ad 18)), (1, .int a1), (2, .int a2), (3, .int a3)] := hl
  rw [fC_Ju_setKin] at hF
  refine lv_iload_n S.1 S.2.1 dX4_setKin_0 rfl (lv_at hl 1 rfl) ?_
  refine lv_iload_n S.1 S.2.1 dX4_setKin_1 rfl (lv_at hl 2 rfl) ?_
  obtain ⟨u1, hu1, hF⟩ := bd_of hF
  refine kc_s (k := 2) (As := [.int a1, .int a2]) (rest := []) (cC_Ju_isPair l hu1) (fun U hU hw => (hW.2.1.2.2.1).warm hw) (fun _ _ _ _ h => h.same) S (gd_S m_952 m_953 m_35 m_954) rfl rfl (by decide +kernel) ⟨Nat.le_of_ble_eq_true rfl, Nat.le_of_ble_eq_true rfl⟩ rfl hl.1 rfl (Nat.le_of_ble_eq_true rfl) ⟨Nat.le_of_ble_eq_true rfl, Nat.le_of_ble_eq_true rfl⟩ dX4_setKin_2 ?_
  refine lv_if_ne (tgt := 10) S.1 S.2.1 dX4_setKin_5 (by decide) (fun hc => ?_) (fun hc => ?_)
  · have hF := it_neg hc hF
    refine lv_aload_n S.1 S.2.1 dX4_setKin_10 rfl (lv_at hl 0 rfl) ?_
    refine xg_X4_21 S hW dX4_setKin_11 ?_
    refine lv_iload_n S.1 S.2.1 dX4_setKin_14 rfl (lv_at hl 1 rfl) ?_
    refine lv_iload_n S.1 S.2.1 dX4_setKin_15 rfl (lv_at hl 2 rfl) ?_
    obtain ⟨u2, hu2, hF⟩ := bd_of hF
    refine sc_i (k := 2) (As := [.int a1, .int a2]) (rest := [.ref (ad 20)]) (cCJu_placeOf l hu2) S (gd_S m_958 m_959 m_35 m_960) rfl rfl (by decide +kernel) ⟨Nat.le_of_ble_eq_true rfl, Nat.le_of_ble_eq_true rfl⟩ rfl hl.1 rfl (Nat.le_of_ble_eq_true rfl) ⟨Nat.le_of_ble_eq_true rfl, Nat.le_of_ble_eq_true rfl⟩ dX4_setKin_16 ?_
    refine lv_iload_n S.1 S.2.1 dX4_setKin_19 rfl (lv_at hl 3 rfl) ?_
    obtain ⟨h3, hF⟩ := gd_of hF
    refine xs_20 (y := (vp_nar .boolean a3)) S hW h3 rfl dX4_setKin_20 (fun H locs hW => ?_)
    refine lv_iconst (v := (1 : Int32)) S.1 S.2.1 dX4_setKin_21 (by decide) ?_
    obtain rfl := Option.some.inj hF
    exact xr_i S hr hlk hW rfl rfl dX4_setKin_22
  · have hF := it_pos hc hF
    refine lv_iconst (v := (0 : Int32)) S.1 S.2.1 dX4_setKin_8 (by decide) ?_
    obtain rfl := Option.some.inj hF
    exact xr_i S hr hlk hW rfl rfl dX4_setKin_9
def fC_Ju_tallyMarks_L12 (l1 : Int32) : Nat → Int32 → Int32 → SC → Option (Int32 × SC)
  | 0, _, _, _ => none
  | n + 1, x2, x3, σ =>
    if (9 : Int32) ≤ x3 then
    some ((x2, σ))
    else
    Option.bind (fCJu_placeOf x3 l1) (fun u1 =>
    if u1 < 0 ∨ 180 ≤ (u1).toNatClampNeg then none else
    Option.bind (fC_isWithin ((xf σ 7 (u1).toNatClampNeg)) ((0 : Int32)) ((10 : Int32))) (fun u3 =>
    Option.bind (if u3 = 0 then
    some (x2, σ)
    else
    Option.bind (fCJu_placeOf x3 l1) (fun u5 =>
    if u5 < 0 ∨ 180 ≤ (u5).toNatClampNeg then none else
    if (xf σ 8 (u5).toNatClampNeg) = 0 then
    if (xf σ 7 (u1).toNatClampNeg) < 0 ∨ 11 ≤ ((xf σ 7 (u1).toNatClampNeg)).toNatClampNeg then none else
    some ((x2 + (1 : Int32)), yf σ 9 ((xf σ 7 (u1).toNatClampNeg)).toNatClampNeg (((xf σ 9 ((xf σ 7 (u1).toNatClampNeg)).toNatClampNeg) + (1 : Int32))))
    else
    some (x2, σ))) (fun u4 =>
    fC_Ju_tallyMarks_L12 l1 n u4.1 ((x3 + (1 : Int32))) u4.2)))
def fC_Ju_tallyMarks (σ : SC) (a1 : Int32) : Option (Int32 × SC) :=
  Option.bind (fC_fill21 σ ((0 : Int32))) (fun u1 =>
  Option.bind (fC_Ju_tallyMarks_L12 a1 1000 ((0 : Int32)) ((0 : Int32)) u1) (fun u2 =>
  some (u2.1, u2.2)))
set_option maxRecDepth 100000 in
set_option maxHeartbeats 4000000 in
theorem cC_Ju_tallyMarks (l : Launch) (D : va_G) (ad : Nat → Nat) (cA : Nat → ClassId) (kk : Nat → Nat) (A : Nat → Prop) (aM aC aE : Nat → Nat) (X : va_W) {σ : SC} {a1 : Int32} {o : Int32 × SC} (hF : fC_Ju_tallyMarks σ a1 = some o) : Mi l yX4_tallyMarks cX4_tallyMarks 5 .int { frames := 1, cells := 0, slots := 0, locals := 24 } [.ref (ad 18), .int a1] (CP D ad cA kk A aM aC aE X σ) o.1 (CP D ad cA kk A aM aC aE X (o.2)) A := by
  refine Mi.of (own := RX4) rfl (by decide +kernel) (Nat.le_of_ble_eq_true rfl) ?_
  intro p e s m args below meth c ls S hr hlk hP hl
  have hW := CW.start hP
  have hl : lv_has ls 5 [(0, .ref (ad 18)), (1, .int a1)] := hl
  rw [fC_Ju_tallyMarks] at hF
  refine lv_aload_n S.1 S.2.1 dX4_tallyMarks_0 rfl (lv_at hl 0 rfl) ?_
  refine xg_X4_25 S hW dX4_tallyMarks_1 ?_
  refine lv_iconst (v := (0 : Int32)) S.1 S.2.1 dX4_tallyMarks_4 (by decide) ?_
  obtain ⟨u1, hu1, hF⟩ := bd_of hF
  refine xs_v (k := 2) (As := [.ref (ad 21), .int ((0 : Int32))]) (rest := []) (cC_fill21 l D ad cA kk A aM aC aE X hu1) S hW (gd_S m_179 m_85 m_86 m_87) (by decide +kernel) ⟨Nat.le_of_ble_eq_true rfl, Nat.le_of_ble_eq_true rfl⟩ rfl hl.1 rfl (Nat.le_of_ble_eq_true rfl) ⟨Nat.le_of_ble_eq_true rfl, Nat.le_of_ble_eq_true rfl⟩ dX4_tallyMarks_5 (fun H locs hW => ?_)
  refine lv_iconst (v := (0 : Int32)) S.1 S.2.1 dX4_tallyMarks_8 (by decide) ?_
  refine lv_istore_n (lv' := [(2, .int ((0 : Int32))), (0, .ref (ad 18)), (1, .int a1)]) S.1 S.2.1 dX4_tallyMarks_9 rfl hl (by decide) rfl (fun ls hl => ?_)
  refine lv_iconst (v := (0 : Int32)) S.1 S.2.1 dX4_tallyMarks_10 (by decide) ?_
  refine lv_istore_n (lv' := [(3, .int ((0 : Int32))), (2, .int ((0 : Int32))), (0, .ref (ad 18)), (1, .int a1)]) S.1 S.2.1 dX4_tallyMarks_11 rfl hl (by decide) rfl (fun ls hl => ?_)
  obtain ⟨u2, hX, hF⟩ := bd_of hF
  refine jn1 (fun H locs ls => lv_has ls 5 [(2, .int u2.1)] ∧ CW D ad cA kk A aM aC aE X u2.2 s H locs) 74 [] (fun H locs ls hJ => ?_) (fun Ju2 => ?_)
  · obtain ⟨hl, hW⟩ := hJ
    refine lv_iload_n S.1 S.2.1 dX4_tallyMarks_74 rfl (lv_at hl 0 rfl) ?_
    obtain rfl := Option.some.inj hF
    exact xr_i S hr hlk hW rfl rfl dX4_tallyMarks_75
  · refine lpW (fun (xu2 : Int32 × Int32 × SC) H locs ls => lv_has ls 5 [(0, .ref (ad 18)), (1, .int a1), (2, .int xu2.1), (3, .int xu2.2.1)] ∧ CW D ad cA kk A aM aC aE X xu2.2.2 s H locs) 12 (fun n xu2 => fC_Ju_tallyMarks_L12 a1 n xu2.1 xu2.2.1 xu2.2.2) u2 (fun _ => rfl) (fun n xu2 ihu2 hF H locs ls hJ => ?_) 1000 ((0 : Int32), (0 : Int32), u1) hX _ _ _ ⟨lv_sub hl [2, 3, 1, 0] rfl, hW⟩
    obtain ⟨hl, hW⟩ := hJ
    have hF : fC_Ju_tallyMarks_L12 a1 (n + 1) xu2.1 xu2.2.1 xu2.2.2 = some u2 := hF
    rw [fC_Ju_tallyMarks_L12] at hF
    refine lv_iload_n S.1 S.2.1 dX4_tallyMarks_12 rfl (lv_at hl 3 rfl) ?_
    refine lv_bipush (v := (9 : Int32)) S.1 S.2.1 dX4_tallyMarks_13 (by decide) ?_
    refine lv_icmp_ge (tgt := 74) S.1 S.2.1 dX4_tallyMarks_15 (by decide) (fun hc => ?_) (fun hc => ?_)
    · have hF := it_pos hc hF
      obtain rfl := Option.some.inj hF
      exact Ju2 _ _ _ ⟨lv_sub hl [2] rfl, hW⟩
    · have hF := it_neg hc hF
      refine lv_aload_n S.1 S.2.1 dX4_tallyMarks_18 rfl (lv_at hl 0 rfl) ?_
      refine xg_X4_11 S hW dX4_tallyMarks_19 ?_
      refine lv_iload_n S.1 S.2.1 dX4_tallyMarks_22 rfl (lv_at hl 3 rfl) ?_
      refine lv_iload_n S.1 S.2.1 dX4_tallyMarks_23 rfl (lv_at hl 1 rfl) ?_
      obtain ⟨u4, hu4, hF⟩ := bd_of hF
      refine sc_i (k := 2) (As := [.int xu2.2.1, .int a1]) (rest := [.ref (ad 19)]) (cCJu_placeOf l hu4) S (gd_S m_958 m_959 m_35 m_960) rfl rfl (by decide +kernel) ⟨Nat.le_of_ble_eq_true rfl, Nat.le_of_ble_eq_true rfl⟩ rfl hl.1 rfl (Nat.le_of_ble_eq_true rfl) ⟨Nat.le_of_ble_eq_true rfl, Nat.le_of_ble_eq_true rfl⟩ dX4_tallyMarks_24 ?_
      obtain ⟨h5, hF⟩ := gd_of hF
      refine xl_19 S hW h5 dX4_tallyMarks_27 ?_
      refine lv_istore (lv' := [(4, .int ((xf xu2.2.2 7 (u4).toNatClampNeg))), (0, .ref (ad 18)), (1, .int a1), (2, .int xu2.1), (3, .int xu2.2.1)]) S.1 S.2.1 dX4_tallyMarks_28 hl (by decide) rfl (fun ls hl => ?_)
      refine lv_iload S.1 S.2.1 dX4_tallyMarks_30 (lv_at hl 0 rfl) ?_
      refine lv_iconst (v := (0 : Int32)) S.1 S.2.1 dX4_tallyMarks_32 (by decide) ?_
      refine lv_bipush (v := (10 : Int32)) S.1 S.2.1 dX4_tallyMarks_33 (by decide) ?_
      obtain ⟨u6, hu6, hF⟩ := bd_of hF
      refine sc_iN (k := 3) (As := [.int ((xf xu2.2.2 7 (u4).toNatClampNeg)), .int ((0 : Int32)), .int ((10 : Int32))]) (rest := []) (cC_isWithin l hu6) S hW.2.1.2.2.1 nw_58 m_242 m_2 m_243 rfl rfl (by decide +kernel) ⟨Nat.le_of_ble_eq_true rfl, Nat.le_of_ble_eq_true rfl⟩ rfl hl.1 rfl (Nat.le_of_ble_eq_true rfl) ⟨Nat.le_of_ble_eq_true rfl, Nat.le_of_ble_eq_true rfl⟩ dX4_tallyMarks_35 ?_
      obtain ⟨u7, hX, hF⟩ := bd_of hF
      refine jn1 (fun H locs ls => lv_has ls 5 [(0, .ref (ad 18)), (1, .int a1), (2, .int u7.1), (3, .int xu2.2.1)] ∧ CW D ad cA kk A aM aC aE X u7.2 s H locs) 68 [] (fun H locs ls hJ => ?_) (fun Ju7 => ?_)
      · obtain ⟨hl, hW⟩ := hJ
        refine lv_iinc (v := (xu2.2.1 + (1 : Int32))) (lv' := [(3, .int ((xu2.2.1 + (1 : Int32)))), (0, .ref (ad 18)), (1, .int a1), (2, .int u7.1)]) S.1 S.2.1 dX4_tallyMarks_68 hl (k := 3) rfl rfl (by decide) rfl (fun ls hl => ?_)
        refine lv_goto (tgt := 12) S.1 S.2.1 dX4_tallyMarks_71 (by decide) ?_
        exact ihu2 (u7.1, (xu2.2.1 + (1 : Int32)), u7.2) hF _ _ _ ⟨lv_sub hl [1, 2, 3, 0] rfl, hW⟩
      · have hF := hX
        refine lv_if_eq (tgt := 68) S.1 S.2.1 dX4_tallyMarks_38 (by decide) (fun hc => ?_) (fun hc => ?_)
        · have hF := it_pos hc hF
          obtain rfl := Option.some.inj hF
          exact Ju7 _ _ _ ⟨lv_sub hl [1, 2, 3, 4] rfl, hW⟩
        · have hF := it_neg hc hF
          refine lv_aload_n S.1 S.2.1 dX4_tallyMarks_41 rfl (lv_at hl 1 rfl) ?_
          refine xg_X4_21 S hW dX4_tallyMarks_42 ?_
          refine lv_iload_n S.1 S.2.1 dX4_tallyMarks_45 rfl (lv_at hl 4 rfl) ?_
          refine lv_iload_n S.1 S.2.1 dX4_tallyMarks_46 rfl (lv_at hl 2 rfl) ?_
          obtain ⟨u8, hu8, hF⟩ := bd_of hF
          refine sc_i (k := 2) (As := [.int xu2.2.1, .int a1]) (rest := [.ref (ad 20)]) (cCJu_placeOf l hu8) S (gd_S m_958 m_959 m_35 m_960) rfl rfl (by decide +kernel) ⟨Nat.le_of_ble_eq_true rfl, Nat.le_of_ble_eq_true rfl⟩ rfl hl.1 rfl (Nat.le_of_ble_eq_true rfl) ⟨Nat.le_of_ble_eq_true rfl, Nat.le_of_ble_eq_true rfl⟩ dX4_tallyMarks_47 ?_
          obtain ⟨h9, hF⟩ := gd_of hF
          refine xl_20 S hW h9 dX4_tallyMarks_50 ?_
          refine lv_if_ne (tgt := 68) S.1 S.2.1 dX4_tallyMarks_51 (by decide) (fun hc => ?_) (fun hc => ?_)
          · have hF := it_neg hc hF
            obtain rfl := Option.some.inj hF
            exact Ju7 _ _ _ ⟨lv_sub hl [1, 2, 3, 4] rfl, hW⟩
          · have hF := it_pos hc hF
            refine lv_aload_n S.1 S.2.1 dX4_tallyMarks_54 rfl (lv_at hl 1 rfl) ?_
            refine xg_X4_25 S hW dX4_tallyMarks_55 ?_
            refine lv_iload S.1 S.2.1 dX4_tallyMarks_58 (lv_at hl 0 rfl) ?_
            refine lv_dup2_11 S.1 S.2.1 dX4_tallyMarks_60 rfl rfl ?_
            obtain ⟨h10, hF⟩ := gd_of hF
            refine xl_21 S hW h10 dX4_tallyMarks_61 ?_
            refine lv_iconst (v := (1 : Int32)) S.1 S.2.1 dX4_tallyMarks_62 (by decide) ?_
            refine lv_iadd S.1 S.2.1 dX4_tallyMarks_63 ?_
            refine xs_21 S hW h10 dX4_tallyMarks_64 (fun H locs hW => ?_)
            refine lv_iinc (v := (xu2.1 + (1 : Int32))) (lv' := [(2, .int ((xu2.1 + (1 : Int32)))), (4, .int ((xf xu2.2.2 7 (u4).toNatClampNeg))), (0, .ref (ad 18)), (1, .int a1), (3, .int xu2.2.1)]) S.1 S.2.1 dX4_tallyMarks_65 hl (k := 3) rfl rfl (by decide) rfl (fun ls hl => ?_)
            obtain rfl := Option.some.inj hF
            exact Ju7 _ _ _ ⟨lv_sub hl [2, 3, 0, 4] rfl, hW⟩
def fC_Ju_leadOver_L4 (σ : SC) (l1 : Int32) : Nat → Int32 → Int32 → Option (Int32)
  | 0, _, _ => none
  | n + 1, x2, x3 =>
    if (10 : Int32) < x3 then
    some ((x2))
    else
    Option.bind (if x3 ≤ l1 then
    if l1 ≤ x3 then
    some (x2)
    else
    if x3 < 0 ∨ 11 ≤ (x3).toNatClampNeg then none else
    some ((x2 - (xf σ 9 (x3).toNatClampNeg)))
    else
    if x3 < 0 ∨ 11 ≤ (x3).toNatClampNeg then none else
    some ((x2 + (xf σ 9 (x3).toNatClampNeg)))) (fun u1 =>
    fC_Ju_leadOver_L4 σ l1 n u1 ((x3 + (1 : Int32))))
def fC_Ju_leadOver (σ : SC) (a1 : Int32) : Option (Int32) :=
  Option.bind (fC_Ju_leadOver_L4 σ a1 1000 ((0 : Int32)) ((0 : Int32))) (fun u1 =>
  some u1)
set_option maxRecDepth 100000 in
set_option maxHeartbeats 4000000 in
theorem cC_Ju_leadOver (l : Launch) (D : va_G) (ad : Nat → Nat) (cA : Nat → ClassId) (kk : Nat → Nat) (A : Nat → Prop) (aM aC aE : Nat → Nat) (X : va_W) {σ : SC} {a1 : Int32} {o : Int32} (hF : fC_Ju_leadOver σ a1 = some o) : Mi l yX4_leadOver cX4_leadOver 4 .int { frames := 0, cells := 0, slots := 0, locals := 0 } [.ref (ad 18), .int a1] (CP D ad cA kk A aM aC aE X σ) o (CP D ad cA kk A aM aC aE X σ) A := by
  refine Mi.of (own := RX4) rfl (by decide +kernel) (Nat.le_of_ble_eq_true rfl) ?_
  intro p e s m args below meth c ls S hr hlk hP hl
  have hW := CW.start hP
  have hl : lv_has ls 4 [(0, .ref (ad 18)), (1, .int a1)] := hl
  rw [fC_Ju_leadOver] at hF
  refine lv_iconst (v := (0 : Int32)) S.1 S.2.1 dX4_leadOver_0 (by decide) ?_
  refine lv_istore_n (lv' := [(2, .int ((0 : Int32))), (0, .ref (ad 18)), (1, .int a1)]) S.1 S.2.1 dX4_leadOver_1 rfl hl (by decide) rfl (fun ls hl => ?_)
  refine lv_iconst (v := (0 : Int32)) S.1 S.2.1 dX4_leadOver_2 (by decide) ?_
  refine lv_istore_n (lv' := [(3, .int ((0 : Int32))), (2, .int ((0 : Int32))), (0, .ref (ad 18)), (1, .int a1)]) S.1 S.2.1 dX4_leadOver_3 rfl hl (by decide) rfl (fun ls hl => ?_)
  obtain ⟨u1, hX, hF⟩ := bd_of hF
  refine jn1 (fun H locs ls => lv_has ls 4 [(2, .int u1)] ∧ CW D ad cA kk A aM aC aE X σ s H locs) 47 [] (fun H locs ls hJ => ?_) (fun Ju1 => ?_)
  · obtain ⟨hl, hW⟩ := hJ
    refine lv_iload_n S.1 S.2.1 dX4_leadOver_47 rfl (lv_at hl 0 rfl) ?_
    obtain rfl := Option.some.inj hF
    exact xr_i S hr hlk hW rfl rfl dX4_leadOver_48
  · refine lpW (fun (xu1 : Int32 × Int32) H locs ls => lv_has ls 4 [(0, .ref (ad 18)), (1, .int a1), (2, .int xu1.1), (3, .int xu1.2)] ∧ CW D ad cA kk A aM aC aE X σ s H locs) 4 (fun n xu1 => fC_Ju_leadOver_L4 σ a1 n xu1.1 xu1.2) u1 (fun _ => rfl) (fun n xu1 ihu1 hF H locs ls hJ => ?_) 1000 ((0 : Int32), (0 : Int32)) hX _ _ _ ⟨lv_sub hl [2, 3, 1, 0] rfl, hW⟩
    obtain ⟨hl, hW⟩ := hJ
    have hF : fC_Ju_leadOver_L4 σ a1 (n + 1) xu1.1 xu1.2 = some u1 := hF
    rw [fC_Ju_leadOver_L4] at hF
    refine lv_iload_n S.1 S.2.1 dX4_leadOver_4 rfl (lv_at hl 3 rfl) ?_
    refine lv_bipush (v := (10 : Int32)) S.1 S.2.1 dX4_leadOver_5 (by decide) ?_
    refine lv_icmp_gt (tgt := 47) S.1 S.2.1 dX4_leadOver_7 (by decide) (fun hc => ?_) (fun hc => ?_)
    · have hF := it_pos hc hF
      obtain rfl := Option.some.inj hF
      exact Ju1 _ _ _ ⟨lv_sub hl [2] rfl, hW⟩
    · have hF := it_neg hc hF
      refine lv_iload_n S.1 S.2.1 dX4_leadOver_10 rfl (lv_at hl 3 rfl) ?_
      refine lv_iload_n S.1 S.2.1 dX4_leadOver_11 rfl (lv_at hl 1 rfl) ?_
      obtain ⟨u3, hX, hF⟩ := bd_of hF
      refine jn1 (fun H locs ls => lv_has ls 4 [(0, .ref (ad 18)), (1, .int a1), (2, .int u3), (3, .int xu1.2)] ∧ CW D ad cA kk A aM aC aE X σ s H locs) 41 [] (fun H locs ls hJ => ?_) (fun Ju3 => ?_)
      · obtain ⟨hl, hW⟩ := hJ
        refine lv_iinc (v := (xu1.2 + (1 : Int32))) (lv' := [(3, .int ((xu1.2 + (1 : Int32)))), (0, .ref (ad 18)), (1, .int a1), (2, .int u3)]) S.1 S.2.1 dX4_leadOver_41 hl (k := 3) rfl rfl (by decide) rfl (fun ls hl => ?_)
        refine lv_goto (tgt := 4) S.1 S.2.1 dX4_leadOver_44 (by decide) ?_
        exact ihu1 (u3, (xu1.2 + (1 : Int32))) hF _ _ _ ⟨lv_sub hl [1, 2, 3, 0] rfl, hW⟩
      · have hF := hX
        refine lv_icmp_le (tgt := 27) S.1 S.2.1 dX4_leadOver_12 (by decide) (fun hc => ?_) (fun hc => ?_)
        · have hF := it_pos hc hF
          refine lv_iload_n S.1 S.2.1 dX4_leadOver_27 rfl (lv_at hl 3 rfl) ?_
          refine lv_iload_n S.1 S.2.1 dX4_leadOver_28 rfl (lv_at hl 1 rfl) ?_
          refine lv_icmp_ge (tgt := 41) S.1 S.2.1 dX4_leadOver_29 (by decide) (fun hc => ?_) (fun hc => ?_)
          · have hF := it_pos hc hF
            obtain rfl := Option.some.inj hF
            exact Ju3 _ _ _ ⟨lv_sub hl [0, 1, 2, 3] rfl, hW⟩
          · have hF := it_neg hc hF
            refine lv_iload_n S.1 S.2.1 dX4_leadOver_32 rfl (lv_at hl 2 rfl) ?_
            refine lv_aload_n S.1 S.2.1 dX4_leadOver_33 rfl (lv_at hl 0 rfl) ?_
            refine xg_X4_25 S hW dX4_leadOver_34 ?_
            refine lv_iload_n S.1 S.2.1 dX4_leadOver_37 rfl (lv_at hl 3 rfl) ?_
            obtain ⟨h4, hF⟩ := gd_of hF
            refine xl_21 S hW h4 dX4_leadOver_38 ?_
            refine lv_isub S.1 S.2.1 dX4_leadOver_39 ?_
            refine lv_istore_n (lv' := [(2, .int ((xu1.1 - (xf σ 9 (xu1.2).toNatClampNeg)))), (0, .ref (ad 18)), (1, .int a1), (3, .int xu1.2)]) S.1 S.2.1 dX4_leadOver_40 rfl hl (by decide) rfl (fun ls hl => ?_)
            obtain rfl := Option.some.inj hF
            exact Ju3 _ _ _ ⟨lv_sub hl [1, 2, 0, 3] rfl, hW⟩
        · have hF := it_neg hc hF
          refine lv_iload_n S.1 S.2.1 dX4_leadOver_15 rfl (lv_at hl 2 rfl) ?_
          refine lv_aload_n S.1 S.2.1 dX4_leadOver_16 rfl (lv_at hl 0 rfl) ?_
          refine xg_X4_25 S hW dX4_leadOver_17 ?_
          refine lv_iload_n S.1 S.2.1 dX4_leadOver_20 rfl (lv_at hl 3 rfl) ?_
          obtain ⟨h5, hF⟩ := gd_of hF
          refine xl_21 S hW h5 dX4_leadOver_21 ?_
          refine lv_iadd S.1 S.2.1 dX4_leadOver_22 ?_
          refine lv_istore_n (lv' := [(2, .int ((xu1.1 + (xf σ 9 (xu1.2).toNatClampNeg)))), (0, .ref (ad 18)), (1, .int a1), (3, .int xu1.2)]) S.1 S.2.1 dX4_leadOver_23 rfl hl (by decide) rfl (fun ls hl => ?_)
          refine lv_goto (tgt := 41) S.1 S.2.1 dX4_leadOver_24 (by decide) ?_
          obtain rfl := Option.some.inj hF
          exact Ju3 _ _ _ ⟨lv_sub hl [1, 2, 0, 3] rfl, hW⟩
def fC_Ta_addNumber_L3 (l1 : Int32) : Nat → Int32 → SC → Option (SC)
  | 0, _, _ => none
  | n + 1, x2, σ =>
    if x2 < 0 then
    some ((σ))
    else
    Option.bind (fC_Ta_addByte σ ((((l1).toUInt32 >>> ((x2).toUInt32 &&& Int32.toUInt32 31)).toInt32 &&& (255 : Int32)))) (fun u1 =>
    fC_Ta_addNumber_L3 l1 n ((x2 + (-8 : Int32))) u1)
def fC_Ta_addNumber (σ : SC) (a1 : Int32) : Option (SC) :=
  Option.bind (fC_Ta_addNumber_L3 a1 1000 ((24 : Int32)) σ) (fun u1 =>
  some u1)
set_option maxRecDepth 100000 in
set_option maxHeartbeats 4000000 in
theorem cC_Ta_addNumber (l : Launch) (D : va_G) (ad : Nat → Nat) (cA : Nat → ClassId) (kk : Nat → Nat) (A : Nat → Prop) (aM aC aE : Nat → Nat) (X : va_W) {σ : SC} {a1 : Int32} {o : SC} (hF : fC_Ta_addNumber σ a1 = some o) : Mv l yX8_addNumber cX8_addNumber 3 { frames := 1, cells := 0, slots := 0, locals := 21 } [.ref (ad 1), .int a1] (CP D ad cA kk A aM aC aE X σ) (CP D ad cA kk A aM aC aE X o) A := by
  refine Mv.of (own := RX8) rfl (by decide +kernel) (Nat.le_of_ble_eq_true rfl) ?_
  intro p e s m args below meth c ls S hr hlk hP hl _
  have hW := CW.start hP
  have hl : lv_has ls 3 [(0, .ref (ad 1)), (1, .int a1)] := hl
  rw [fC_Ta_addNumber] at hF
  refine lv_bipush (v := (24 : Int32)) S.1 S.2.1 dX8_addNumber_0 (by decide) ?_
  refine lv_istore_n (lv' := [(2, .int ((24 : Int32))), (0, .ref (ad 1)), (1, .int a1)]) S.1 S.2.1 dX8_addNumber_2 rfl hl (by decide) rfl (fun ls hl => ?_)
  obtain ⟨u1, hX, hF⟩ := bd_of hF
  refine jn1 (fun H locs ls => lv_has ls 3 [] ∧ CW D ad cA kk A aM aC aE X u1 s H locs) 24 [] (fun H locs ls hJ => ?_) (fun Ju1 => ?_)
  · obtain ⟨hl, hW⟩ := hJ
    obtain rfl := Option.some.inj hF
    exact xr_v S hr hlk hW dX8_addNumber_24
  · refine lpW (fun (xu1 : Int32 × SC) H locs ls => lv_has ls 3 [(0, .ref (ad 1)), (1, .int a1), (2, .int xu1.1)] ∧ CW D ad cA kk A aM aC aE X xu1.2 s H locs) 3 (fun n xu1 => fC_Ta_addNumber_L3 a1 n xu1.1 xu1.2) u1 (fun _ => rfl) (fun n xu1 ihu1 hF H locs ls hJ => ?_) 1000 ((24 : Int32), σ) hX _ _ _ ⟨lv_sub hl [1, 2, 0] rfl, hW⟩
    obtain ⟨hl, hW⟩ := hJ
    have hF : fC_Ta_addNumber_L3 a1 (n + 1) xu1.1 xu1.2 = some u1 := hF
    rw [fC_Ta_addNumber_L3] at hF
    refine lv_iload_n S.1 S.2.1 dX8_addNumber_3 rfl (lv_at hl 2 rfl) ?_
    refine lv_if_lt (tgt := 24) S.1 S.2.1 dX8_addNumber_4 (by decide) (fun hc => ?_) (fun hc => ?_)
    · have hF := it_pos hc hF
      obtain rfl := Option.some.inj hF
      exact Ju1 _ _ _ ⟨lv_sub hl [] rfl, hW⟩
    · have hF := it_neg hc hF
      refine lv_aload_n S.1 S.2.1 dX8_addNumber_7 rfl (lv_at hl 0 rfl) ?_
      refine lv_iload_n S.1 S.2.1 dX8_addNumber_8 rfl (lv_at hl 1 rfl) ?_
      refine lv_iload_n S.1 S.2.1 dX8_addNumber_9 rfl (lv_at hl 2 rfl) ?_
      refine lv_iushr (v := ((a1).toUInt32 >>> ((xu1.1).toUInt32 &&& Int32.toUInt32 31)).toInt32) S.1 S.2.1 dX8_addNumber_10 rfl ?_
      refine lv_sipush (v := (255 : Int32)) S.1 S.2.1 dX8_addNumber_11 (by decide) ?_
      refine lv_iand S.1 S.2.1 dX8_addNumber_14 ?_
      obtain ⟨u3, hu3, hF⟩ := bd_of hF
      refine xc_v (k := 1) (As := [.int ((((a1).toUInt32 >>> ((xu1.1).toUInt32 &&& Int32.toUInt32 31)).toInt32 &&& (255 : Int32)))]) (rest := []) (cC_Ta_addByte l D ad cA kk A aM aC aE X hu3) (xr_RX8 hW) S hW (gd_V m_220 m_221 m_222 m_15 m_223) (by decide +kernel) ⟨Nat.le_of_ble_eq_true rfl, Nat.le_of_ble_eq_true rfl⟩ rfl hl.1 rfl (Nat.le_of_ble_eq_true rfl) ⟨Nat.le_of_ble_eq_true rfl, Nat.le_of_ble_eq_true rfl⟩ dX8_addNumber_15 (fun H locs hW => ?_)
      refine lv_iinc (v := (xu1.1 + (-8 : Int32))) (lv' := [(2, .int ((xu1.1 + (-8 : Int32)))), (0, .ref (ad 1)), (1, .int a1)]) S.1 S.2.1 dX8_addNumber_18 hl (k := 2) rfl rfl (by decide) rfl (fun ls hl => ?_)
      refine lv_goto (tgt := 3) S.1 S.2.1 dX8_addNumber_21 (by decide) ?_
      exact ihu1 ((xu1.1 + (-8 : Int32)), u3) hF _ _ _ ⟨lv_sub hl [1, 2, 0] rfl, hW⟩
def fC_B_end (σ : SC) (a1 : Int32) : Option (Int32 × SC) :=
  Option.bind (fC_Ta_cutTo σ a1) (fun u1 =>
  if u1.1 = 0 ∨ u1.1 = 1 then some (u1.1, u1.2) else none)
set_option maxRecDepth 100000 in
set_option maxHeartbeats 4000000 in
theorem cC_B_end (l : Launch) (D : va_G) (ad : Nat → Nat) (cA : Nat → ClassId) (kk : Nat → Nat) (A : Nat → Prop) (aM aC aE : Nat → Nat) (X : va_W) {σ : SC} {a1 : Int32} {o : Int32 × SC} (hF : fC_B_end σ a1 = some o) : Mi l yX10_end cX10_end 2 .boolean { frames := 2, cells := 0, slots := 0, locals := 43 } [.ref (ad 0), .int a1] (CP D ad cA kk A aM aC aE X σ) o.1 (CP D ad cA kk A aM aC aE X (o.2)) A := by
  refine Mi.of (own := RX10) rfl (by decide +kernel) (Nat.le_of_ble_eq_true rfl) ?_
  intro p e s m args below meth c ls S hr hlk hP hl
  have hW := CW.start hP
  have hl : lv_has ls 2 [(0, .ref (ad 0)), (1, .int a1)] := hl
  rw [fC_B_end] at hF
  refine lv_aload_n S.1 S.2.1 dX10_end_0 rfl (lv_at hl 0 rfl) ?_
  refine xg_X10_10 S hW dX10_end_1 ?_
  refine lv_iload_n S.1 S.2.1 dX10_end_4 rfl (lv_at hl 1 rfl) ?_
  obtain ⟨u1, hu1, hF⟩ := bd_of hF
  refine xc_i (k := 1) (As := [.int a1]) (rest := []) (cC_Ta_cutTo l D ad cA kk A aM aC aE X hu1) (xr_RX8 hW) S hW (gd_V m_238 m_239 m_240 m_15 m_241) (by decide +kernel) ⟨Nat.le_of_ble_eq_true rfl, Nat.le_of_ble_eq_true rfl⟩ rfl hl.1 rfl (Nat.le_of_ble_eq_true rfl) ⟨Nat.le_of_ble_eq_true rfl, Nat.le_of_ble_eq_true rfl⟩ dX10_end_5 (fun H locs hW => ?_)
  obtain ⟨hb, hF⟩ := gt_of hF
  obtain rfl := Option.some.inj hF
  exact xr_i S hr hlk hW (bool_nar hb) rfl dX10_end_8
def fC_Tr_nextSign_L0 : Nat → SC → Option (SC)
  | 0, _ => none
  | n + 1, σ =>
    if (200 : Int32) ≤ (xz σ 3) then
    some ((σ))
    else
    Option.bind (fC_Ta_byteAt σ ((xz σ 3))) (fun u1 =>
    if u1 = (32 : Int32) then
    fC_Tr_nextSign_L0 n (yz σ 3 (((xz σ 3) + (1 : Int32))))
    else
    some ((σ)))
def fC_Tr_nextSign (σ : SC) : Option (Int32 × SC) :=
  Option.bind (fC_Tr_nextSign_L0 1000 σ) (fun u1 =>
  Option.bind (fC_Ta_byteAt u1 ((xz u1 3))) (fun u4 =>
  some (u4, u1)))
set_option maxRecDepth 100000 in
set_option maxHeartbeats 4000000 in
theorem cC_Tr_nextSign (l : Launch) (D : va_G) (ad : Nat → Nat) (cA : Nat → ClassId) (kk : Nat → Nat) (A : Nat → Prop) (aM aC aE : Nat → Nat) (X : va_W) {σ : SC} {o : Int32 × SC} (hF : fC_Tr_nextSign σ = some o) : Mi l yX9_nextSign cX9_nextSign 1 .int { frames := 1, cells := 0, slots := 0, locals := 21 } [.ref (ad 7)] (CP D ad cA kk A aM aC aE X σ) o.1 (CP D ad cA kk A aM aC aE X (o.2)) A := by
  refine Mi.of (own := RX9) rfl (by decide +kernel) (Nat.le_of_ble_eq_true rfl) ?_
  intro p e s m args below meth c ls S hr hlk hP hl
  have hW := CW.start hP
  have hl : lv_has ls 1 [(0, .ref (ad 7))] := hl
  rw [fC_Tr_nextSign] at hF
  obtain ⟨u1, hX, hF⟩ := bd_of hF
  refine jn1 (fun H locs ls => lv_has ls 1 [(0, .ref (ad 7))] ∧ CW D ad cA kk A aM aC aE X u1 s H locs) 39 [] (fun H locs ls hJ => ?_) (fun Ju1 => ?_)
  · obtain ⟨hl, hW⟩ := hJ
    refine lv_aload_n S.1 S.2.1 dX9_nextSign_39 rfl (lv_at hl 0 rfl) ?_
    refine xg_X9_9 S hW dX9_nextSign_40 ?_
    refine lv_aload_n S.1 S.2.1 dX9_nextSign_43 rfl (lv_at hl 0 rfl) ?_
    refine xg_X9_19 S hW dX9_nextSign_44 ?_
    obtain ⟨u4, hu4, hF⟩ := bd_of hF
    refine xc_i (k := 1) (As := [.int ((xz u1 3))]) (rest := []) (cC_Ta_byteAt l D ad cA kk A aM aC aE X hu4) (xr_RX8 hW) S hW (gd_V m_268 m_269 m_270 m_15 m_271) (by decide +kernel) ⟨Nat.le_of_ble_eq_true rfl, Nat.le_of_ble_eq_true rfl⟩ rfl hl.1 rfl (Nat.le_of_ble_eq_true rfl) ⟨Nat.le_of_ble_eq_true rfl, Nat.le_of_ble_eq_true rfl⟩ dX9_nextSign_47 (fun H locs hW => ?_)
    obtain rfl := Option.some.inj hF
    exact xr_i S hr hlk hW rfl rfl dX9_nextSign_50
  · refine lpW (fun (xu1 : SC) H locs ls => lv_has ls 1 [(0, .ref (ad 7))] ∧ CW D ad cA kk A aM aC aE X xu1 s H locs) 0 (fun n xu1 => fC_Tr_nextSign_L0 n xu1) u1 (fun _ => rfl) (fun n xu1 ihu1 hF H locs ls hJ => ?_) 1000 (σ) hX _ _ _ ⟨lv_sub hl [0] rfl, hW⟩
    obtain ⟨hl, hW⟩ := hJ
    have hF : fC_Tr_nextSign_L0 (n + 1) xu1 = some u1 := hF
    rw [fC_Tr_nextSign_L0] at hF
    refine lv_aload_n S.1 S.2.1 dX9_nextSign_0 rfl (lv_at hl 0 rfl) ?_
    refine xg_X9_19 S hW dX9_nextSign_1 ?_
    refine lv_sipush (v := (200 : Int32)) S.1 S.2.1 dX9_nextSign_4 (by decide) ?_
    refine lv_icmp_ge (tgt := 39) S.1 S.2.1 dX9_nextSign_7 (by decide) (fun hc => ?_) (fun hc => ?_)
    · have hF := it_pos hc hF
      obtain rfl := Option.some.inj hF
      exact Ju1 _ _ _ ⟨lv_sub hl [0] rfl, hW⟩
    · have hF := it_neg hc hF
      refine lv_aload_n S.1 S.2.1 dX9_nextSign_10 rfl (lv_at hl 0 rfl) ?_
      refine xg_X9_9 S hW dX9_nextSign_11 ?_
      refine lv_aload_n S.1 S.2.1 dX9_nextSign_14 rfl (lv_at hl 0 rfl) ?_
      refine xg_X9_19 S hW dX9_nextSign_15 ?_
      obtain ⟨u3, hu3, hF⟩ := bd_of hF
      refine xc_i (k := 1) (As := [.int ((xz xu1 3))]) (rest := []) (cC_Ta_byteAt l D ad cA kk A aM aC aE X hu3) (xr_RX8 hW) S hW (gd_V m_268 m_269 m_270 m_15 m_271) (by decide +kernel) ⟨Nat.le_of_ble_eq_true rfl, Nat.le_of_ble_eq_true rfl⟩ rfl hl.1 rfl (Nat.le_of_ble_eq_true rfl) ⟨Nat.le_of_ble_eq_true rfl, Nat.le_of_ble_eq_true rfl⟩ dX9_nextSign_18 (fun H locs hW => ?_)
      refine lv_bipush (v := (32 : Int32)) S.1 S.2.1 dX9_nextSign_21 (by decide) ?_
      refine lv_icmp_ne (tgt := 39) S.1 S.2.1 dX9_nextSign_23 (by decide) (fun hc => ?_) (fun hc => ?_)
      · have hF := it_neg hc hF
        obtain rfl := Option.some.inj hF
        exact Ju1 _ _ _ ⟨lv_sub hl [0] rfl, hW⟩
      · have hF := it_pos hc hF
        refine lv_aload_n S.1 S.2.1 dX9_nextSign_26 rfl (lv_at hl 0 rfl) ?_
        refine lv_dup S.1 S.2.1 dX9_nextSign_27 rfl ?_
        refine xg_X9_19 S hW dX9_nextSign_28 ?_
        refine lv_iconst (v := (1 : Int32)) S.1 S.2.1 dX9_nextSign_31 (by decide) ?_
        refine lv_iadd S.1 S.2.1 dX9_nextSign_32 ?_
        refine xp_X9_19 S hW dX9_nextSign_33 (fun H locs hW => ?_)
        refine lv_goto (tgt := 0) S.1 S.2.1 dX9_nextSign_36 (by decide) ?_
        exact ihu1 (yz xu1 3 (((xz xu1 3) + (1 : Int32)))) hF _ _ _ ⟨lv_sub hl [0] rfl, hW⟩
def fC_Tr_nameBetween_L2 (σ : SC) (l1 : Int32) (l2 : Int32) : Nat → Int32 → Option ((Unit) ⊕ (Int32))
  | 0, _ => none
  | n + 1, x3 =>
    if (8 : Int32) ≤ x3 then
    some (Sum.inl (()))
    else
    Option.bind (fC_Tr_wordOf σ x3) (fun u1 =>
    Option.bind (fC_Tr_standsBetween σ u1 l1 l2) (fun u2 =>
    if u2 = 0 then
    fC_Tr_nameBetween_L2 σ l1 l2 n ((x3 + (1 : Int32)))
    else
    some (Sum.inr (x3))))
def fC_Tr_nameBetween (σ : SC) (a1 : Int32) (a2 : Int32) : Option (Int32) :=
  Option.bind (fC_Tr_nameBetween_L2 σ a1 a2 1000 ((0 : Int32))) (fun w5 => Sum.elim (fun u1 =>
  some ((-1 : Int32))) (fun r => some r) w5)
set_option maxRecDepth 100000 in
set_option maxHeartbeats 4000000 in
theorem cC_Tr_nameBetween (l : Launch) (D : va_G) (ad : Nat → Nat) (cA : Nat → ClassId) (kk : Nat → Nat) (A : Nat → Prop) (aM aC aE : Nat → Nat) (X : va_W) {σ : SC} {a1 : Int32} {a2 : Int32} {o : Int32} (hF : fC_Tr_nameBetween σ a1 a2 = some o) : Mi l yX9_nameBetween cX9_nameBetween 4 .int { frames := 5, cells := 0, slots := 0, locals := 109 } [.ref (ad 7), .int a1, .int a2] (CP D ad cA kk A aM aC aE X σ) o (CP D ad cA kk A aM aC aE X σ) A := by
  refine Mi.of (own := RX9) rfl (by decide +kernel) (Nat.le_of_ble_eq_true rfl) ?_
  intro p e s m args below meth c ls S hr hlk hP hl
  have hW := CW.start hP
  have hl : lv_has ls 4 [(0, .ref (ad 7)), (1, .int a1), (2, .int a2)] := hl
  rw [fC_Tr_nameBetween] at hF
  refine lv_iconst (v := (0 : Int32)) S.1 S.2.1 dX9_nameBetween_0 (by decide) ?_
  refine lv_istore_n (lv' := [(3, .int ((0 : Int32))), (0, .ref (ad 7)), (1, .int a1), (2, .int a2)]) S.1 S.2.1 dX9_nameBetween_1 rfl hl (by decide) rfl (fun ls hl => ?_)
  obtain ⟨w5, hX, hF⟩ := bd_of hF
  refine jn1 (fun H locs ls => ∃ u1, w5 = Sum.inl u1 ∧ lv_has ls 4 [] ∧ CW D ad cA kk A aM aC aE X σ s H locs) 29 [] (fun H locs ls hJ => ?_) (fun Ju1 => ?_)
  · obtain ⟨u1, rfl, hl, hW⟩ := hJ
    rw [Sum.elim_inl] at hF
    refine lv_iconst (v := (-1 : Int32)) S.1 S.2.1 dX9_nameBetween_29 (by decide) ?_
    obtain rfl := Option.some.inj hF
    exact xr_i S hr hlk hW rfl rfl dX9_nameBetween_30
  · have hF0 := hF
    clear hF
    refine lpW (fun (xu1 : Int32) H locs ls => lv_has ls 4 [(0, .ref (ad 7)), (1, .int a1), (2, .int a2), (3, .int xu1)] ∧ CW D ad cA kk A aM aC aE X σ s H locs) 2 (fun n xu1 => fC_Tr_nameBetween_L2 σ a1 a2 n xu1) w5 (fun _ => rfl) (fun n xu1 ihu1 hF H locs ls hJ => ?_) 1000 ((0 : Int32)) hX _ _ _ ⟨lv_sub hl [1, 2, 3, 0] rfl, hW⟩
    obtain ⟨hl, hW⟩ := hJ
    have hF : fC_Tr_nameBetween_L2 σ a1 a2 (n + 1) xu1 = some w5 := hF
    rw [fC_Tr_nameBetween_L2] at hF
    refine lv_iload_n S.1 S.2.1 dX9_nameBetween_2 rfl (lv_at hl 3 rfl) ?_
    refine lv_bipush (v := (8 : Int32)) S.1 S.2.1 dX9_nameBetween_3 (by decide) ?_
    refine lv_icmp_ge (tgt := 29) S.1 S.2.1 dX9_nameBetween_5 (by decide) (fun hc => ?_) (fun hc => ?_)
    · have hF := it_pos hc hF
      obtain rfl := Option.some.inj hF
      exact Ju1 _ _ _ ⟨_, rfl, lv_sub hl [] rfl, hW⟩
    · have hF := it_neg hc hF
      refine lv_aload_n S.1 S.2.1 dX9_nameBetween_8 rfl (lv_at hl 0 rfl) ?_
      refine lv_iload_n S.1 S.2.1 dX9_nameBetween_9 rfl (lv_at hl 3 rfl) ?_
      obtain ⟨u3, hu3, hF⟩ := bd_of hF
      refine xs_o (k := 1) (As := [.int xu1]) (rest := [.ref (ad 7)]) (cC_Tr_wordOf l D ad cA kk A aM aC aE X hu3) S hW (gd_S m_276 m_277 m_23 m_278) (by decide +kernel) ⟨Nat.le_of_ble_eq_true rfl, Nat.le_of_ble_eq_true rfl⟩ rfl hl.1 rfl (Nat.le_of_ble_eq_true rfl) ⟨Nat.le_of_ble_eq_true rfl, Nat.le_of_ble_eq_true rfl⟩ dX9_nameBetween_10 (fun H locs hW => ?_)
      refine W.eq (g2 := F0 m 13 ls (.ref (kk u3) :: [.ref (ad 7)])) rfl ?_
      refine lv_iload_n S.1 S.2.1 dX9_nameBetween_13 rfl (lv_at hl 1 rfl) ?_
      refine lv_iload_n S.1 S.2.1 dX9_nameBetween_14 rfl (lv_at hl 2 rfl) ?_
      obtain ⟨u4, hu4, hF⟩ := bd_of hF
      refine xc_i (k := 3) (As := [.ref (kk u3), .int a1, .int a2]) (rest := []) (cC_Tr_standsBetween l D ad cA kk A aM aC aE X hu4) (xr_RX9 hW) S hW (gd_V m_279 m_280 m_281 m_23 m_282) (by decide +kernel) ⟨Nat.le_of_ble_eq_true rfl, Nat.le_of_ble_eq_true rfl⟩ rfl hl.1 rfl (Nat.le_of_ble_eq_true rfl) ⟨Nat.le_of_ble_eq_true rfl, Nat.le_of_ble_eq_true rfl⟩ dX9_nameBetween_15 (fun H locs hW => ?_)
      refine lv_if_eq (tgt := 23) S.1 S.2.1 dX9_nameBetween_18 (by decide) (fun hc => ?_) (fun hc => ?_)
      · have hF := it_pos hc hF
        refine lv_iinc (v := (xu1 + (1 : Int32))) (lv' := [(3, .int ((xu1 + (1 : Int32)))), (0, .ref (ad 7)), (1, .int a1), (2, .int a2)]) S.1 S.2.1 dX9_nameBetween_23 hl (k := 3) rfl rfl (by decide) rfl (fun ls hl => ?_)
        refine lv_goto (tgt := 2) S.1 S.2.1 dX9_nameBetween_26 (by decide) ?_
        exact ihu1 ((xu1 + (1 : Int32))) hF _ _ _ ⟨lv_sub hl [1, 2, 3, 0] rfl, hW⟩
      · have hF := it_neg hc hF
        refine lv_iload_n S.1 S.2.1 dX9_nameBetween_21 rfl (lv_at hl 3 rfl) ?_
        obtain rfl := Option.some.inj hF
        have hF0 : some (xu1) = some o := hF0
        obtain rfl := Option.some.inj hF0
        exact xr_i S hr hlk hW rfl rfl dX9_nameBetween_22
def fC_Tr_readEquals (σ : SC) : Option (Int32 × SC) :=
  Option.bind (fC_Tr_nextSign σ) (fun u1 =>
  if u1.1 = (61 : Int32) then
  some ((1 : Int32), yz u1.2 3 (((xz u1.2 3) + (1 : Int32))))
  else
  Option.bind (fC_Tr_fail u1.2 ((1 : Int32)) ((xz u1.2 3))) (fun u2 =>
  if u2.1 = 0 ∨ u2.1 = 1 then some (u2.1, u2.2) else none))
set_option maxRecDepth 100000 in
set_option maxHeartbeats 4000000 in
theorem cC_Tr_readEquals (l : Launch) (D : va_G) (ad : Nat → Nat) (cA : Nat → ClassId) (kk : Nat → Nat) (A : Nat → Prop) (aM aC aE : Nat → Nat) (X : va_W) {σ : SC} {o : Int32 × SC} (hF : fC_Tr_readEquals σ = some o) : Mi l yX9_readEquals cX9_readEquals 1 .boolean { frames := 2, cells := 0, slots := 0, locals := 41 } [.ref (ad 7)] (CP D ad cA kk A aM aC aE X σ) o.1 (CP D ad cA kk A aM aC aE X (o.2)) A := by
  refine Mi.of (own := RX9) rfl (by decide +kernel) (Nat.le_of_ble_eq_true rfl) ?_
  intro p e s m args below meth c ls S hr hlk hP hl
  have hW := CW.start hP
  have hl : lv_has ls 1 [(0, .ref (ad 7))] := hl
  rw [fC_Tr_readEquals] at hF
  refine lv_aload_n S.1 S.2.1 dX9_readEquals_0 rfl (lv_at hl 0 rfl) ?_
  obtain ⟨u1, hu1, hF⟩ := bd_of hF
  refine xc_i (k := 0) (As := []) (rest := []) (cC_Tr_nextSign l D ad cA kk A aM aC aE X hu1) (xr_RX9 hW) S hW (gd_V m_264 m_265 m_266 m_23 m_267) (by decide +kernel) ⟨Nat.le_of_ble_eq_true rfl, Nat.le_of_ble_eq_true rfl⟩ rfl hl.1 rfl (Nat.le_of_ble_eq_true rfl) ⟨Nat.le_of_ble_eq_true rfl, Nat.le_of_ble_eq_true rfl⟩ dX9_readEquals_1 (fun H locs hW => ?_)
  refine lv_bipush (v := (61 : Int32)) S.1 S.2.1 dX9_readEquals_4 (by decide) ?_
  refine lv_icmp_eq (tgt := 19) S.1 S.2.1 dX9_readEquals_6 (by decide) (fun hc => ?_) (fun hc => ?_)
  · have hF := it_pos hc hF
    refine lv_aload_n S.1 S.2.1 dX9_readEquals_19 rfl (lv_at hl 0 rfl) ?_
    refine lv_dup S.1 S.2.1 dX9_readEquals_20 rfl ?_
    refine xg_X9_19 S hW dX9_readEquals_21 ?_
    refine lv_iconst (v := (1 : Int32)) S.1 S.2.1 dX9_readEquals_24 (by decide) ?_
    refine lv_iadd S.1 S.2.1 dX9_readEquals_25 ?_
    refine xp_X9_19 S hW dX9_readEquals_26 (fun H locs hW => ?_)
    refine lv_iconst (v := (1 : Int32)) S.1 S.2.1 dX9_readEquals_29 (by decide) ?_
    obtain rfl := Option.some.inj hF
    exact xr_i S hr hlk hW rfl rfl dX9_readEquals_30
  · have hF := it_neg hc hF
    refine lv_aload_n S.1 S.2.1 dX9_readEquals_9 rfl (lv_at hl 0 rfl) ?_
    refine lv_iconst (v := (1 : Int32)) S.1 S.2.1 dX9_readEquals_10 (by decide) ?_
    refine lv_aload_n S.1 S.2.1 dX9_readEquals_11 rfl (lv_at hl 0 rfl) ?_
    refine xg_X9_19 S hW dX9_readEquals_12 ?_
    obtain ⟨u2, hu2, hF⟩ := bd_of hF
    refine xc_i (k := 2) (As := [.int ((1 : Int32)), .int ((xz u1.2 3))]) (rest := []) (cC_Tr_fail l D ad cA kk A aM aC aE X hu2) (xr_RX9 hW) S hW (gd_V m_332 m_333 m_334 m_23 m_335) (by decide +kernel) ⟨Nat.le_of_ble_eq_true rfl, Nat.le_of_ble_eq_true rfl⟩ rfl hl.1 rfl (Nat.le_of_ble_eq_true rfl) ⟨Nat.le_of_ble_eq_true rfl, Nat.le_of_ble_eq_true rfl⟩ dX9_readEquals_15 (fun H locs hW => ?_)
    obtain ⟨hb, hF⟩ := gt_of hF
    obtain rfl := Option.some.inj hF
    exact xr_i S hr hlk hW (bool_nar hb) rfl dX9_readEquals_18
def fC_Tr_readNumber_L33 (l1 : Int32) (l2 : Int32) : Nat → Int32 → SC → Option (Int32 × SC)
  | 0, _, _ => none
  | n + 1, x3, σ =>
    if (200 : Int32) ≤ (xz σ 3) then
    some ((x3, σ))
    else
    Option.bind (fC_Ta_byteAt σ ((xz σ 3))) (fun u1 =>
    Option.bind (fC_isWithin u1 ((48 : Int32)) ((57 : Int32))) (fun u2 =>
    if u2 = 0 then
    some ((x3, σ))
    else
    Option.bind (if l1 < x3 then
    some (x3)
    else
    Option.bind (fC_Ta_byteAt σ ((xz σ 3))) (fun u4 =>
    some (((x3 * (10 : Int32)) + (u4 - (48 : Int32)))))) (fun u3 =>
    fC_Tr_readNumber_L33 l1 l2 n u3 (yz σ 3 (((xz σ 3) + (1 : Int32)))))))
def fC_Tr_readNumber (σ : SC) (a1 : Int32) : Option (Int32 × SC) :=
  Option.bind (fC_Tr_nextSign σ) (fun u1 =>
  Option.bind (fC_isWithin u1.1 ((48 : Int32)) ((57 : Int32))) (fun u2 =>
  if u2 = 0 then
  Option.bind (fC_Tr_fail u1.2 ((1 : Int32)) ((xz u1.2 3))) (fun u10 =>
  some ((-1 : Int32), u10.2))
  else
  Option.bind (fC_Tr_readNumber_L33 a1 ((xz u1.2 3)) 1000 ((0 : Int32)) u1.2) (fun u3 =>
  if u3.1 ≤ a1 then
  some (u3.1, u3.2)
  else
  Option.bind (fC_Tr_fail u3.2 ((2 : Int32)) ((xz u1.2 3))) (fun u9 =>
  some ((-1 : Int32), u9.2)))))
set_option maxRecDepth 100000 in
set_option maxHeartbeats 4000000 in
theorem cC_Tr_readNumber (l : Launch) (D : va_G) (ad : Nat → Nat) (cA : Nat → ClassId) (kk : Nat → Nat) (A : Nat → Prop) (aM aC aE : Nat → Nat) (X : va_W) {σ : SC} {a1 : Int32} {o : Int32 × SC} (hF : fC_Tr_readNumber σ a1 = some o) : Mi l yX9_readNumber cX9_readNumber 4 .int { frames := 2, cells := 0, slots := 0, locals := 41 } [.ref (ad 7), .int a1] (CP D ad cA kk A aM aC aE X σ) o.1 (CP D ad cA kk A aM aC aE X (o.2)) A := by
  refine Mi.of (own := RX9) rfl (by decide +kernel) (Nat.le_of_ble_eq_true rfl) ?_
  intro p e s m args below meth c ls S hr hlk hP hl
  have hW := CW.start hP
  have hl : lv_has ls 4 [(0, .ref (ad 7)), (1, .int a1)] := hl
  rw [fC_Tr_readNumber] at hF
  refine lv_aload_n S.1 S.2.1 dX9_readNumber_0 rfl (lv_at hl 0 rfl) ?_
  obtain ⟨u1, hu1, hF⟩ := bd_of hF
  refine xc_i (k := 0) (As := []) (rest := []) (cC_Tr_nextSign l D ad cA kk A aM aC aE X hu1) (xr_RX9 hW) S hW (gd_V m_264 m_265 m_266 m_23 m_267) (by decide +kernel) ⟨Nat.le_of_ble_eq_true rfl, Nat.le_of_ble_eq_true rfl⟩ rfl hl.1 rfl (Nat.le_of_ble_eq_true rfl) ⟨Nat.le_of_ble_eq_true rfl, Nat.le_of_ble_eq_true rfl⟩ dX9_readNumber_1 (fun H locs hW => ?_)
  refine lv_bipush (v := (48 : Int32)) S.1 S.2.1 dX9_readNumber_4 (by decide) ?_
  refine lv_bipush (v := (57 : Int32)) S.1 S.2.1 dX9_readNumber_6 (by decide) ?_
  obtain ⟨u2, hu2, hF⟩ := bd_of hF
  refine sc_iN (k := 3) (As := [.int u1.1, .int ((48 : Int32)), .int ((57 : Int32))]) (rest := []) (cC_isWithin l hu2) S hW.2.1.2.2.1 nw_21 m_242 m_2 m_243 rfl rfl (by decide +kernel) ⟨Nat.le_of_ble_eq_true rfl, Nat.le_of_ble_eq_true rfl⟩ rfl hl.1 rfl (Nat.le_of_ble_eq_true rfl) ⟨Nat.le_of_ble_eq_true rfl, Nat.le_of_ble_eq_true rfl⟩ dX9_readNumber_8 ?_
  refine lv_if_ne (tgt := 26) S.1 S.2.1 dX9_readNumber_11 (by decide) (fun hc => ?_) (fun hc => ?_)
  · have hF := it_neg hc hF
    refine lv_aload_n S.1 S.2.1 dX9_readNumber_26 rfl (lv_at hl 0 rfl) ?_
    refine xg_X9_19 S hW dX9_readNumber_27 ?_
    refine lv_istore_n (lv' := [(2, .int ((xz u1.2 3))), (0, .ref (ad 7)), (1, .int a1)]) S.1 S.2.1 dX9_readNumber_30 rfl hl (by decide) rfl (fun ls hl => ?_)
    refine lv_iconst (v := (0 : Int32)) S.1 S.2.1 dX9_readNumber_31 (by decide) ?_
    refine lv_istore_n (lv' := [(3, .int ((0 : Int32))), (2, .int ((xz u1.2 3))), (0, .ref (ad 7)), (1, .int a1)]) S.1 S.2.1 dX9_readNumber_32 rfl hl (by decide) rfl (fun ls hl => ?_)
    obtain ⟨u3, hX, hF⟩ := bd_of hF
    refine jn1 (fun H locs ls => lv_has ls 4 [(0, .ref (ad 7)), (1, .int a1), (2, .int ((xz u1.2 3))), (3, .int u3.1)] ∧ CW D ad cA kk A aM aC aE X u3.2 s H locs) 102 [] (fun H locs ls hJ => ?_) (fun Ju3 => ?_)
    · obtain ⟨hl, hW⟩ := hJ
      refine lv_iload_n S.1 S.2.1 dX9_readNumber_102 rfl (lv_at hl 3 rfl) ?_
      refine lv_iload_n S.1 S.2.1 dX9_readNumber_103 rfl (lv_at hl 1 rfl) ?_
      refine lv_icmp_le (tgt := 116) S.1 S.2.1 dX9_readNumber_104 (by decide) (fun hc => ?_) (fun hc => ?_)
      · have hF := it_pos hc hF
        refine lv_iload_n S.1 S.2.1 dX9_readNumber_116 rfl (lv_at hl 3 rfl) ?_
        obtain rfl := Option.some.inj hF
        exact xr_i S hr hlk hW rfl rfl dX9_readNumber_117
      · have hF := it_neg hc hF
        refine lv_aload_n S.1 S.2.1 dX9_readNumber_107 rfl (lv_at hl 0 rfl) ?_
        refine lv_iconst (v := (2 : Int32)) S.1 S.2.1 dX9_readNumber_108 (by decide) ?_
        refine lv_iload_n S.1 S.2.1 dX9_readNumber_109 rfl (lv_at hl 2 rfl) ?_
        obtain ⟨u9, hu9, hF⟩ := bd_of hF
        refine xc_i (k := 2) (As := [.int ((2 : Int32)), .int ((xz u1.2 3))]) (rest := []) (cC_Tr_fail l D ad cA kk A aM aC aE X hu9) (xr_RX9 hW) S hW (gd_V m_332 m_333 m_334 m_23 m_335) (by decide +kernel) ⟨Nat.le_of_ble_eq_true rfl, Nat.le_of_ble_eq_true rfl⟩ rfl hl.1 rfl (Nat.le_of_ble_eq_true rfl) ⟨Nat.le_of_ble_eq_true rfl, Nat.le_of_ble_eq_true rfl⟩ dX9_readNumber_110 (fun H locs hW => ?_)
        refine lv_pop S.1 S.2.1 dX9_readNumber_113 rfl ?_
        refine lv_iconst (v := (-1 : Int32)) S.1 S.2.1 dX9_readNumber_114 (by decide) ?_
        obtain rfl := Option.some.inj hF
        exact xr_i S hr hlk hW rfl rfl dX9_readNumber_115
    · refine lpW (fun (xu3 : Int32 × SC) H locs ls => lv_has ls 4 [(0, .ref (ad 7)), (1, .int a1), (2, .int ((xz u1.2 3))), (3, .int xu3.1)] ∧ CW D ad cA kk A aM aC aE X xu3.2 s H locs) 33 (fun n xu3 => fC_Tr_readNumber_L33 a1 ((xz u1.2 3)) n xu3.1 xu3.2) u3 (fun _ => rfl) (fun n xu3 ihu3 hF H locs ls hJ => ?_) 1000 ((0 : Int32), u1.2) hX _ _ _ ⟨lv_sub hl [2, 3, 1, 0] rfl, hW⟩
      obtain ⟨hl, hW⟩ := hJ
      have hF : fC_Tr_readNumber_L33 a1 ((xz u1.2 3)) (n + 1) xu3.1 xu3.2 = some u3 := hF
      rw [fC_Tr_readNumber_L33] at hF
      refine lv_aload_n S.1 S.2.1 dX9_readNumber_33 rfl (lv_at hl 0 rfl) ?_
      refine xg_X9_19 S hW dX9_readNumber_34 ?_
      refine lv_sipush (v := (200 : Int32)) S.1 S.2.1 dX9_readNumber_37 (by decide) ?_
      refine lv_icmp_ge (tgt := 102) S.1 S.2.1 dX9_readNumber_40 (by decide) (fun hc => ?_) (fun hc => ?_)
      · have hF := it_pos hc hF
        obtain rfl := Option.some.inj hF
        exact Ju3 _ _ _ ⟨lv_sub hl [0, 1, 2, 3] rfl, hW⟩
      · have hF := it_neg hc hF
        refine lv_aload_n S.1 S.2.1 dX9_readNumber_43 rfl (lv_at hl 0 rfl) ?_
        refine xg_X9_9 S hW dX9_readNumber_44 ?_
        refine lv_aload_n S.1 S.2.1 dX9_readNumber_47 rfl (lv_at hl 0 rfl) ?_
        refine xg_X9_19 S hW dX9_readNumber_48 ?_
        obtain ⟨u5, hu5, hF⟩ := bd_of hF
        refine xc_i (k := 1) (As := [.int ((xz xu3.2 3))]) (rest := []) (cC_Ta_byteAt l D ad cA kk A aM aC aE X hu5) (xr_RX8 hW) S hW (gd_V m_268 m_269 m_270 m_15 m_271) (by decide +kernel) ⟨Nat.le_of_ble_eq_true rfl, Nat.le_of_ble_eq_true rfl⟩ rfl hl.1 rfl (Nat.le_of_ble_eq_true rfl) ⟨Nat.le_of_ble_eq_true rfl, Nat.le_of_ble_eq_true rfl⟩ dX9_readNumber_51 (fun H locs hW => ?_)
        refine lv_bipush (v := (48 : Int32)) S.1 S.2.1 dX9_readNumber_54 (by decide) ?_
        refine lv_bipush (v := (57 : Int32)) S.1 S.2.1 dX9_readNumber_56 (by decide) ?_
        obtain ⟨u6, hu6, hF⟩ := bd_of hF
        refine sc_iN (k := 3) (As := [.int u5, .int ((48 : Int32)), .int ((57 : Int32))]) (rest := []) (cC_isWithin l hu6) S hW.2.1.2.2.1 nw_21 m_242 m_2 m_243 rfl rfl (by decide +kernel) ⟨Nat.le_of_ble_eq_true rfl, Nat.le_of_ble_eq_true rfl⟩ rfl hl.1 rfl (Nat.le_of_ble_eq_true rfl) ⟨Nat.le_of_ble_eq_true rfl, Nat.le_of_ble_eq_true rfl⟩ dX9_readNumber_58 ?_
        refine lv_if_eq (tgt := 102) S.1 S.2.1 dX9_readNumber_61 (by decide) (fun hc => ?_) (fun hc => ?_)
        · have hF := it_pos hc hF
          obtain rfl := Option.some.inj hF
          exact Ju3 _ _ _ ⟨lv_sub hl [0, 1, 2, 3] rfl, hW⟩
        · have hF := it_neg hc hF
          refine lv_iload_n S.1 S.2.1 dX9_readNumber_64 rfl (lv_at hl 3 rfl) ?_
          refine lv_iload_n S.1 S.2.1 dX9_readNumber_65 rfl (lv_at hl 1 rfl) ?_
          obtain ⟨u7, hX, hF⟩ := bd_of hF
          refine jn1 (fun H locs ls => lv_has ls 4 [(0, .ref (ad 7)), (1, .int a1), (2, .int ((xz u1.2 3))), (3, .int u7)] ∧ CW D ad cA kk A aM aC aE X xu3.2 s H locs) 89 [] (fun H locs ls hJ => ?_) (fun Ju7 => ?_)
          · obtain ⟨hl, hW⟩ := hJ
            refine lv_aload_n S.1 S.2.1 dX9_readNumber_89 rfl (lv_at hl 0 rfl) ?_
            refine lv_dup S.1 S.2.1 dX9_readNumber_90 rfl ?_
            refine xg_X9_19 S hW dX9_readNumber_91 ?_
            refine lv_iconst (v := (1 : Int32)) S.1 S.2.1 dX9_readNumber_94 (by decide) ?_
            refine lv_iadd S.1 S.2.1 dX9_readNumber_95 ?_
            refine xp_X9_19 S hW dX9_readNumber_96 (fun H locs hW => ?_)
            refine lv_goto (tgt := 33) S.1 S.2.1 dX9_readNumber_99 (by decide) ?_
            exact ihu3 (u7, yz xu3.2 3 (((xz xu3.2 3) + (1 : Int32)))) hF _ _ _ ⟨lv_sub hl [0, 1, 2, 3] rfl, hW⟩
          · have hF := hX
            refine lv_icmp_gt (tgt := 89) S.1 S.2.1 dX9_readNumber_66 (by decide) (fun hc => ?_) (fun hc => ?_)
            · have hF := it_pos hc hF
              obtain rfl := Option.some.inj hF
              exact Ju7 _ _ _ ⟨lv_sub hl [0, 1, 2, 3] rfl, hW⟩
            · have hF := it_neg hc hF
              refine lv_iload_n S.1 S.2.1 dX9_readNumber_69 rfl (lv_at hl 3 rfl) ?_
              refine lv_bipush (v := (10 : Int32)) S.1 S.2.1 dX9_readNumber_70 (by decide) ?_
              refine lv_imul S.1 S.2.1 dX9_readNumber_72 ?_
              refine lv_aload_n S.1 S.2.1 dX9_readNumber_73 rfl (lv_at hl 0 rfl) ?_
              refine xg_X9_9 S hW dX9_readNumber_74 ?_
              refine lv_aload_n S.1 S.2.1 dX9_readNumber_77 rfl (lv_at hl 0 rfl) ?_
              refine xg_X9_19 S hW dX9_readNumber_78 ?_
              obtain ⟨u8, hu8, hF⟩ := bd_of hF
              refine xc_i (k := 1) (As := [.int ((xz xu3.2 3))]) (rest := [.int ((xu3.1 * (10 : Int32)))]) (cC_Ta_byteAt l D ad cA kk A aM aC aE X hu8) (xr_RX8 hW) S hW (gd_V m_268 m_269 m_270 m_15 m_271) (by decide +kernel) ⟨Nat.le_of_ble_eq_true rfl, Nat.le_of_ble_eq_true rfl⟩ rfl hl.1 rfl (Nat.le_of_ble_eq_true rfl) ⟨Nat.le_of_ble_eq_true rfl, Nat.le_of_ble_eq_true rfl⟩ dX9_readNumber_81 (fun H locs hW => ?_)
              refine lv_bipush (v := (48 : Int32)) S.1 S.2.1 dX9_readNumber_84 (by decide) ?_
              refine lv_isub S.1 S.2.1 dX9_readNumber_86 ?_
              refine lv_iadd S.1 S.2.1 dX9_readNumber_87 ?_
              refine lv_istore_n (lv' := [(3, .int (((xu3.1 * (10 : Int32)) + (u8 - (48 : Int32))))), (0, .ref (ad 7)), (1, .int a1), (2, .int ((xz u1.2 3)))]) S.1 S.2.1 dX9_readNumber_88 rfl hl (by decide) rfl (fun ls hl => ?_)
              obtain rfl := Option.some.inj hF
              exact Ju7 _ _ _ ⟨lv_sub hl [1, 2, 3, 0] rfl, hW⟩
  · have hF := it_pos hc hF
    refine lv_aload_n S.1 S.2.1 dX9_readNumber_14 rfl (lv_at hl 0 rfl) ?_
    refine lv_iconst (v := (1 : Int32)) S.1 S.2.1 dX9_readNumber_15 (by decide) ?_
    refine lv_aload_n S.1 S.2.1 dX9_readNumber_16 rfl (lv_at hl 0 rfl) ?_
    refine xg_X9_19 S hW dX9_readNumber_17 ?_
    obtain ⟨u10, hu10, hF⟩ := bd_of hF
    refine xc_i (k := 2) (As := [.int ((1 : Int32)), .int ((xz u1.2 3))]) (rest := []) (cC_Tr_fail l D ad cA kk A aM aC aE X hu10) (xr_RX9 hW) S hW (gd_V m_332 m_333 m_334 m_23 m_335) (by decide +kernel) ⟨Nat.le_of_ble_eq_true rfl, Nat.le_of_ble_eq_true rfl⟩ rfl hl.1 rfl (Nat.le_of_ble_eq_true rfl) ⟨Nat.le_of_ble_eq_true rfl, Nat.le_of_ble_eq_true rfl⟩ dX9_readNumber_20 (fun H locs hW => ?_)
    refine lv_pop S.1 S.2.1 dX9_readNumber_23 rfl ?_
    refine lv_iconst (v := (-1 : Int32)) S.1 S.2.1 dX9_readNumber_24 (by decide) ?_
    obtain rfl := Option.some.inj hF
    exact xr_i S hr hlk hW rfl rfl dX9_readNumber_25
