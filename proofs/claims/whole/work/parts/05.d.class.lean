def fC_Tr_readMonth (σ : SC) : Option (Int32 × SC) :=
  Option.bind (fC_Tr_nextSign σ) (fun u1 =>
  if u1.1 = (64 : Int32) then
  Option.bind (fC_Tr_readNumber (yz u1.2 3 (((xz u1.2 3) + (1 : Int32)))) ((60 : Int32))) (fun u2 =>
  some (u2.1, u2.2))
  else
  some ((0 : Int32), u1.2))
set_option maxRecDepth 100000 in
set_option maxHeartbeats 4000000 in
theorem cC_Tr_readMonth (l : Launch) (D : va_G) (ad : Nat → Nat) (cA : Nat → ClassId) (kk : Nat → Nat) (A : Nat → Prop) (aM aC aE : Nat → Nat) (X : va_W) {σ : SC} {o : Int32 × SC} (hF : fC_Tr_readMonth σ = some o) : Mi l yX9_readMonth cX9_readMonth 1 .int { frames := 3, cells := 0, slots := 0, locals := 64 } [.ref (ad 7)] (CP D ad cA kk A aM aC aE X σ) o.1 (CP D ad cA kk A aM aC aE X (o.2)) A := by
  refine Mi.of (own := RX9) rfl (by decide +kernel) (Nat.le_of_ble_eq_true rfl) ?_
  intro p e s m args below meth c ls S hr hlk hP hl
  have hW := CW.start hP
  have hl : lv_has ls 1 [(0, .ref (ad 7))] := hl
  rw [fC_Tr_readMonth] at hF
  refine lv_aload_n S.1 S.2.1 dX9_readMonth_0 rfl (lv_at hl 0 rfl) ?_
  obtain ⟨u1, hu1, hF⟩ := bd_of hF
  refine xc_i (k := 0) (As := []) (rest := []) (cC_Tr_nextSign l D ad cA kk A aM aC aE X hu1) (xr_RX9 hW) S hW (gd_V m_264 m_265 m_266 m_23 m_267) (by decide +kernel) ⟨Nat.le_of_ble_eq_true rfl, Nat.le_of_ble_eq_true rfl⟩ rfl hl.1 rfl (Nat.le_of_ble_eq_true rfl) ⟨Nat.le_of_ble_eq_true rfl, Nat.le_of_ble_eq_true rfl⟩ dX9_readMonth_1 (fun H locs hW => ?_)
  refine lv_bipush (v := (64 : Int32)) S.1 S.2.1 dX9_readMonth_4 (by decide) ?_
  refine lv_icmp_eq (tgt := 11) S.1 S.2.1 dX9_readMonth_6 (by decide) (fun hc => ?_) (fun hc => ?_)
  · have hF := it_pos hc hF
    refine lv_aload_n S.1 S.2.1 dX9_readMonth_11 rfl (lv_at hl 0 rfl) ?_
    refine lv_dup S.1 S.2.1 dX9_readMonth_12 rfl ?_
    refine xg_X9_19 S hW dX9_readMonth_13 ?_
    refine lv_iconst (v := (1 : Int32)) S.1 S.2.1 dX9_readMonth_16 (by decide) ?_
    refine lv_iadd S.1 S.2.1 dX9_readMonth_17 ?_
    refine xp_X9_19 S hW dX9_readMonth_18 (fun H locs hW => ?_)
    refine lv_aload_n S.1 S.2.1 dX9_readMonth_21 rfl (lv_at hl 0 rfl) ?_
    refine lv_bipush (v := (60 : Int32)) S.1 S.2.1 dX9_readMonth_22 (by decide) ?_
    obtain ⟨u2, hu2, hF⟩ := bd_of hF
    refine xc_i (k := 1) (As := [.int ((60 : Int32))]) (rest := []) (cC_Tr_readNumber l D ad cA kk A aM aC aE X hu2) (xr_RX9 hW) S hW (gd_V m_344 m_345 m_346 m_23 m_347) (by decide +kernel) ⟨Nat.le_of_ble_eq_true rfl, Nat.le_of_ble_eq_true rfl⟩ rfl hl.1 rfl (Nat.le_of_ble_eq_true rfl) ⟨Nat.le_of_ble_eq_true rfl, Nat.le_of_ble_eq_true rfl⟩ dX9_readMonth_24 (fun H locs hW => ?_)
    obtain rfl := Option.some.inj hF
    exact xr_i S hr hlk hW rfl rfl dX9_readMonth_27
  · have hF := it_neg hc hF
    refine lv_iconst (v := (0 : Int32)) S.1 S.2.1 dX9_readMonth_9 (by decide) ?_
    obtain rfl := Option.some.inj hF
    exact xr_i S hr hlk hW rfl rfl dX9_readMonth_10
def fC_Tr_readComma (σ : SC) : Option (Int32 × SC) :=
  Option.bind (fC_Tr_nextSign σ) (fun u1 =>
  if u1.1 = (-1 : Int32) then
  some ((0 : Int32), u1.2)
  else
  if u1.1 = (44 : Int32) then
  some ((1 : Int32), yz u1.2 3 (((xz u1.2 3) + (1 : Int32))))
  else
  Option.bind (fC_Tr_fail u1.2 ((1 : Int32)) ((xz u1.2 3))) (fun u2 =>
  if u2.1 = 0 ∨ u2.1 = 1 then some (u2.1, u2.2) else none))
set_option maxRecDepth 100000 in
set_option maxHeartbeats 4000000 in
theorem cC_Tr_readComma (l : Launch) (D : va_G) (ad : Nat → Nat) (cA : Nat → ClassId) (kk : Nat → Nat) (A : Nat → Prop) (aM aC aE : Nat → Nat) (X : va_W) {σ : SC} {o : Int32 × SC} (hF : fC_Tr_readComma σ = some o) : Mi l yX9_readComma cX9_readComma 2 .boolean { frames := 2, cells := 0, slots := 0, locals := 41 } [.ref (ad 7)] (CP D ad cA kk A aM aC aE X σ) o.1 (CP D ad cA kk A aM aC aE X (o.2)) A := by
  refine Mi.of (own := RX9) rfl (by decide +kernel) (Nat.le_of_ble_eq_true rfl) ?_
  intro p e s m args below meth c ls S hr hlk hP hl
  have hW := CW.start hP
  have hl : lv_has ls 2 [(0, .ref (ad 7))] := hl
  rw [fC_Tr_readComma] at hF
  refine lv_aload_n S.1 S.2.1 dX9_readComma_0 rfl (lv_at hl 0 rfl) ?_
  obtain ⟨u1, hu1, hF⟩ := bd_of hF
  refine xc_i (k := 0) (As := []) (rest := []) (cC_Tr_nextSign l D ad cA kk A aM aC aE X hu1) (xr_RX9 hW) S hW (gd_V m_264 m_265 m_266 m_23 m_267) (by decide +kernel) ⟨Nat.le_of_ble_eq_true rfl, Nat.le_of_ble_eq_true rfl⟩ rfl hl.1 rfl (Nat.le_of_ble_eq_true rfl) ⟨Nat.le_of_ble_eq_true rfl, Nat.le_of_ble_eq_true rfl⟩ dX9_readComma_1 (fun H locs hW => ?_)
  refine lv_istore_n (lv' := [(1, .int u1.1), (0, .ref (ad 7))]) S.1 S.2.1 dX9_readComma_4 rfl hl (by decide) rfl (fun ls hl => ?_)
  refine lv_iload_n S.1 S.2.1 dX9_readComma_5 rfl (lv_at hl 0 rfl) ?_
  refine lv_iconst (v := (-1 : Int32)) S.1 S.2.1 dX9_readComma_6 (by decide) ?_
  refine lv_icmp_ne (tgt := 12) S.1 S.2.1 dX9_readComma_7 (by decide) (fun hc => ?_) (fun hc => ?_)
  · have hF := it_neg hc hF
    refine lv_iload_n S.1 S.2.1 dX9_readComma_12 rfl (lv_at hl 0 rfl) ?_
    refine lv_bipush (v := (44 : Int32)) S.1 S.2.1 dX9_readComma_13 (by decide) ?_
    refine lv_icmp_eq (tgt := 28) S.1 S.2.1 dX9_readComma_15 (by decide) (fun hc => ?_) (fun hc => ?_)
    · have hF := it_pos hc hF
      refine lv_aload_n S.1 S.2.1 dX9_readComma_28 rfl (lv_at hl 1 rfl) ?_
      refine lv_dup S.1 S.2.1 dX9_readComma_29 rfl ?_
      refine xg_X9_19 S hW dX9_readComma_30 ?_
      refine lv_iconst (v := (1 : Int32)) S.1 S.2.1 dX9_readComma_33 (by decide) ?_
      refine lv_iadd S.1 S.2.1 dX9_readComma_34 ?_
      refine xp_X9_19 S hW dX9_readComma_35 (fun H locs hW => ?_)
      refine lv_iconst (v := (1 : Int32)) S.1 S.2.1 dX9_readComma_38 (by decide) ?_
      obtain rfl := Option.some.inj hF
      exact xr_i S hr hlk hW rfl rfl dX9_readComma_39
    · have hF := it_neg hc hF
      refine lv_aload_n S.1 S.2.1 dX9_readComma_18 rfl (lv_at hl 1 rfl) ?_
      refine lv_iconst (v := (1 : Int32)) S.1 S.2.1 dX9_readComma_19 (by decide) ?_
      refine lv_aload_n S.1 S.2.1 dX9_readComma_20 rfl (lv_at hl 1 rfl) ?_
      refine xg_X9_19 S hW dX9_readComma_21 ?_
      obtain ⟨u2, hu2, hF⟩ := bd_of hF
      refine xc_i (k := 2) (As := [.int ((1 : Int32)), .int ((xz u1.2 3))]) (rest := []) (cC_Tr_fail l D ad cA kk A aM aC aE X hu2) (xr_RX9 hW) S hW (gd_V m_332 m_333 m_334 m_23 m_335) (by decide +kernel) ⟨Nat.le_of_ble_eq_true rfl, Nat.le_of_ble_eq_true rfl⟩ rfl hl.1 rfl (Nat.le_of_ble_eq_true rfl) ⟨Nat.le_of_ble_eq_true rfl, Nat.le_of_ble_eq_true rfl⟩ dX9_readComma_24 (fun H locs hW => ?_)
      obtain ⟨hb, hF⟩ := gt_of hF
      obtain rfl := Option.some.inj hF
      exact xr_i S hr hlk hW (bool_nar hb) rfl dX9_readComma_27
  · have hF := it_pos hc hF
    refine lv_iconst (v := (0 : Int32)) S.1 S.2.1 dX9_readComma_10 (by decide) ?_
    obtain rfl := Option.some.inj hF
    exact xr_i S hr hlk hW rfl rfl dX9_readComma_11
def fC_B_rule (σ : SC) (a1 : Int32) (a2 : Int32) : Option (Int32) :=
  Option.bind (fC_isWithin a1 ((0 : Int32)) ((7 : Int32))) (fun u1 =>
  if u1 = 0 then
  some ((-1 : Int32))
  else
  Option.bind (fC_isWithin a2 ((0 : Int32)) ((60 : Int32))) (fun u2 =>
  if u2 = 0 then
  some ((-1 : Int32))
  else
  Option.bind (fC_Rb_inForce σ a1 a2) (fun u3 =>
  some u3)))
set_option maxRecDepth 100000 in
set_option maxHeartbeats 4000000 in
theorem cC_B_rule (l : Launch) (D : va_G) (ad : Nat → Nat) (cA : Nat → ClassId) (kk : Nat → Nat) (A : Nat → Prop) (aM aC aE : Nat → Nat) (X : va_W) {σ : SC} {a1 : Int32} {a2 : Int32} {o : Int32} (hF : fC_B_rule σ a1 a2 = some o) : Mi l yX10_rule cX10_rule 3 .int { frames := 2, cells := 0, slots := 0, locals := 47 } [.ref (ad 0), .int a1, .int a2] (CP D ad cA kk A aM aC aE X σ) o (CP D ad cA kk A aM aC aE X σ) A := by
  refine Mi.of (own := RX10) rfl (by decide +kernel) (Nat.le_of_ble_eq_true rfl) ?_
  intro p e s m args below meth c ls S hr hlk hP hl
  have hW := CW.start hP
  have hl : lv_has ls 3 [(0, .ref (ad 0)), (1, .int a1), (2, .int a2)] := hl
  rw [fC_B_rule] at hF
  refine lv_iload_n S.1 S.2.1 dX10_rule_0 rfl (lv_at hl 1 rfl) ?_
  refine lv_iconst (v := (0 : Int32)) S.1 S.2.1 dX10_rule_1 (by decide) ?_
  refine lv_bipush (v := (7 : Int32)) S.1 S.2.1 dX10_rule_2 (by decide) ?_
  obtain ⟨u1, hu1, hF⟩ := bd_of hF
  refine sc_i (k := 3) (As := [.int a1, .int ((0 : Int32)), .int ((7 : Int32))]) (rest := []) (cC_isWithin l hu1) S (gd_S m_473 m_242 m_2 m_243) rfl rfl (by decide +kernel) ⟨Nat.le_of_ble_eq_true rfl, Nat.le_of_ble_eq_true rfl⟩ rfl hl.1 rfl (Nat.le_of_ble_eq_true rfl) ⟨Nat.le_of_ble_eq_true rfl, Nat.le_of_ble_eq_true rfl⟩ dX10_rule_4 ?_
  refine lv_if_eq (tgt := 20) S.1 S.2.1 dX10_rule_7 (by decide) (fun hc => ?_) (fun hc => ?_)
  · have hF := it_pos hc hF
    refine lv_iconst (v := (-1 : Int32)) S.1 S.2.1 dX10_rule_20 (by decide) ?_
    obtain rfl := Option.some.inj hF
    exact xr_i S hr hlk hW rfl rfl dX10_rule_21
  · have hF := it_neg hc hF
    refine lv_iload_n S.1 S.2.1 dX10_rule_10 rfl (lv_at hl 2 rfl) ?_
    refine lv_iconst (v := (0 : Int32)) S.1 S.2.1 dX10_rule_11 (by decide) ?_
    refine lv_bipush (v := (60 : Int32)) S.1 S.2.1 dX10_rule_12 (by decide) ?_
    obtain ⟨u2, hu2, hF⟩ := bd_of hF
    refine sc_i (k := 3) (As := [.int a2, .int ((0 : Int32)), .int ((60 : Int32))]) (rest := []) (cC_isWithin l hu2) S (gd_S m_473 m_242 m_2 m_243) rfl rfl (by decide +kernel) ⟨Nat.le_of_ble_eq_true rfl, Nat.le_of_ble_eq_true rfl⟩ rfl hl.1 rfl (Nat.le_of_ble_eq_true rfl) ⟨Nat.le_of_ble_eq_true rfl, Nat.le_of_ble_eq_true rfl⟩ dX10_rule_14 ?_
    refine lv_if_ne (tgt := 22) S.1 S.2.1 dX10_rule_17 (by decide) (fun hc => ?_) (fun hc => ?_)
    · have hF := it_neg hc hF
      refine lv_aload_n S.1 S.2.1 dX10_rule_22 rfl (lv_at hl 0 rfl) ?_
      refine xg_X10_19 S hW dX10_rule_23 ?_
      refine lv_iload_n S.1 S.2.1 dX10_rule_26 rfl (lv_at hl 1 rfl) ?_
      refine lv_iload_n S.1 S.2.1 dX10_rule_27 rfl (lv_at hl 2 rfl) ?_
      obtain ⟨u3, hu3, hF⟩ := bd_of hF
      refine xc_i (k := 2) (As := [.int a1, .int a2]) (rest := []) (cC_Rb_inForce l D ad cA kk A aM aC aE X hu3) (xr_RX7 hW) S hW (gd_V m_474 m_475 m_476 m_19 m_477) (by decide +kernel) ⟨Nat.le_of_ble_eq_true rfl, Nat.le_of_ble_eq_true rfl⟩ rfl hl.1 rfl (Nat.le_of_ble_eq_true rfl) ⟨Nat.le_of_ble_eq_true rfl, Nat.le_of_ble_eq_true rfl⟩ dX10_rule_28 (fun H locs hW => ?_)
      obtain rfl := Option.some.inj hF
      exact xr_i S hr hlk hW rfl rfl dX10_rule_31
    · have hF := it_pos hc hF
      refine lv_iconst (v := (-1 : Int32)) S.1 S.2.1 dX10_rule_20 (by decide) ?_
      obtain rfl := Option.some.inj hF
      exact xr_i S hr hlk hW rfl rfl dX10_rule_21
def fC_B_lag (σ : SC) (a1 : Int32) (a2 : Int32) : Option (Int32 × SC) :=
  Option.bind (fC_Cl_setLag σ a1 a2) (fun u1 =>
  if u1.1 = 0 ∨ u1.1 = 1 then some (u1.1, u1.2) else none)
set_option maxRecDepth 100000 in
set_option maxHeartbeats 4000000 in
theorem cC_B_lag (l : Launch) (D : va_G) (ad : Nat → Nat) (cA : Nat → ClassId) (kk : Nat → Nat) (A : Nat → Prop) (aM aC aE : Nat → Nat) (X : va_W) {σ : SC} {a1 : Int32} {a2 : Int32} {o : Int32 × SC} (hF : fC_B_lag σ a1 a2 = some o) : Mi l yX10_lag cX10_lag 3 .boolean { frames := 3, cells := 0, slots := 0, locals := 64 } [.ref (ad 0), .int a1, .int a2] (CP D ad cA kk A aM aC aE X σ) o.1 (CP D ad cA kk A aM aC aE X (o.2)) A := by
  refine Mi.of (own := RX10) rfl (by decide +kernel) (Nat.le_of_ble_eq_true rfl) ?_
  intro p e s m args below meth c ls S hr hlk hP hl
  have hW := CW.start hP
  have hl : lv_has ls 3 [(0, .ref (ad 0)), (1, .int a1), (2, .int a2)] := hl
  rw [fC_B_lag] at hF
  refine lv_aload_n S.1 S.2.1 dX10_lag_0 rfl (lv_at hl 0 rfl) ?_
  refine xg_X10_37 S hW dX10_lag_1 ?_
  refine lv_iload_n S.1 S.2.1 dX10_lag_4 rfl (lv_at hl 1 rfl) ?_
  refine lv_iload_n S.1 S.2.1 dX10_lag_5 rfl (lv_at hl 2 rfl) ?_
  obtain ⟨u1, hu1, hF⟩ := bd_of hF
  refine xc_i (k := 2) (As := [.int a1, .int a2]) (rest := []) (cC_Cl_setLag l D ad cA kk A aM aC aE X hu1) (xr_RX2 hW) S hW (gd_V m_491 m_492 m_493 m_27 m_494) (by decide +kernel) ⟨Nat.le_of_ble_eq_true rfl, Nat.le_of_ble_eq_true rfl⟩ rfl hl.1 rfl (Nat.le_of_ble_eq_true rfl) ⟨Nat.le_of_ble_eq_true rfl, Nat.le_of_ble_eq_true rfl⟩ dX10_lag_6 (fun H locs hW => ?_)
  obtain ⟨hb, hF⟩ := gt_of hF
  obtain rfl := Option.some.inj hF
  exact xr_i S hr hlk hW (bool_nar hb) rfl dX10_lag_9
def fC_B_move (σ : SC) (a1 : Int32) (a2 : Int32) : Option (Int32 × SC) :=
  Option.bind (fC_Cl_findMember σ a1) (fun u1 =>
  onull u1
  (Option.bind (fC_Cl_rehouse σ none a2) (fun u2 =>
  if u2.1 = 0 ∨ u2.1 = 1 then some (u2.1, u2.2) else none))
  (fun iu1 =>
  Option.bind (fC_Cl_rehouse σ (some iu1) a2) (fun u3 =>
  if u3.1 = 0 ∨ u3.1 = 1 then some (u3.1, u3.2) else none)))
set_option maxRecDepth 100000 in
set_option maxHeartbeats 4000000 in
theorem cC_B_move (l : Launch) (D : va_G) (ad : Nat → Nat) (cA : Nat → ClassId) (kk : Nat → Nat) (A : Nat → Prop) (aM aC aE : Nat → Nat) (X : va_W) {σ : SC} {a1 : Int32} {a2 : Int32} {o : Int32 × SC} (hF : fC_B_move σ a1 a2 = some o) : Mi l yX10_move cX10_move 3 .boolean { frames := 4, cells := 0, slots := 0, locals := 85 } [.ref (ad 0), .int a1, .int a2] (CP D ad cA kk A aM aC aE X σ) o.1 (CP D ad cA kk A aM aC aE X (o.2)) A := by
  refine Mi.of (own := RX10) rfl (by decide +kernel) (Nat.le_of_ble_eq_true rfl) ?_
  intro p e s m args below meth c ls S hr hlk hP hl
  have hW := CW.start hP
  have hl : lv_has ls 3 [(0, .ref (ad 0)), (1, .int a1), (2, .int a2)] := hl
  rw [fC_B_move] at hF
  refine lv_aload_n S.1 S.2.1 dX10_move_0 rfl (lv_at hl 0 rfl) ?_
  refine xg_X10_37 S hW dX10_move_1 ?_
  refine lv_aload_n S.1 S.2.1 dX10_move_4 rfl (lv_at hl 0 rfl) ?_
  refine xg_X10_37 S hW dX10_move_5 ?_
  refine lv_iload_n S.1 S.2.1 dX10_move_8 rfl (lv_at hl 1 rfl) ?_
  obtain ⟨u1, hu1, hF⟩ := bd_of hF
  refine xc_o (k := 1) (As := [.int a1]) (rest := [.ref (ad 8)]) (cC_Cl_findMember l D ad cA kk A aM aC aE X hu1) (xr_RX2 hW) S hW (gd_V m_574 m_575 m_576 m_27 m_577) (by decide +kernel) ⟨Nat.le_of_ble_eq_true rfl, Nat.le_of_ble_eq_true rfl⟩ rfl hl.1 rfl (Nat.le_of_ble_eq_true rfl) ⟨Nat.le_of_ble_eq_true rfl, Nat.le_of_ble_eq_true rfl⟩ dX10_move_9 (fun H locs hW => ?_)
  rcases on_of hF with ⟨he, hF⟩ | ⟨iu1, he, hF⟩
  · refine W.eq (g2 := F0 m 12 ls (.null :: [.ref (ad 8)])) (by rw [he]; rfl) ?_
    refine lv_iload_n S.1 S.2.1 dX10_move_12 rfl (lv_at hl 2 rfl) ?_
    obtain ⟨u2, hu2, hF⟩ := bd_of hF
    refine xc_i (k := 2) (As := [.null, .int a2]) (rest := []) (cC_Cl_rehouse l D ad cA kk A aM aC aE X hu2) (xr_RX2 hW) S hW (gd_V m_592 m_593 m_594 m_27 m_595) (by decide +kernel) ⟨Nat.le_of_ble_eq_true rfl, Nat.le_of_ble_eq_true rfl⟩ rfl hl.1 rfl (Nat.le_of_ble_eq_true rfl) ⟨Nat.le_of_ble_eq_true rfl, Nat.le_of_ble_eq_true rfl⟩ dX10_move_13 (fun H locs hW => ?_)
    obtain ⟨hb, hF⟩ := gt_of hF
    obtain rfl := Option.some.inj hF
    exact xr_i S hr hlk hW (bool_nar hb) rfl dX10_move_16
  · refine W.eq (g2 := F0 m 12 ls (.ref (aM iu1) :: [.ref (ad 8)])) (by rw [he]; rfl) ?_
    refine lv_iload_n S.1 S.2.1 dX10_move_12 rfl (lv_at hl 2 rfl) ?_
    obtain ⟨u3, hu3, hF⟩ := bd_of hF
    refine xc_i (k := 2) (As := [.ref (aM iu1), .int a2]) (rest := []) (cC_Cl_rehouse l D ad cA kk A aM aC aE X hu3) (xr_RX2 hW) S hW (gd_V m_592 m_593 m_594 m_27 m_595) (by decide +kernel) ⟨Nat.le_of_ble_eq_true rfl, Nat.le_of_ble_eq_true rfl⟩ rfl hl.1 rfl (Nat.le_of_ble_eq_true rfl) ⟨Nat.le_of_ble_eq_true rfl, Nat.le_of_ble_eq_true rfl⟩ dX10_move_13 (fun H locs hW => ?_)
    obtain ⟨hb, hF⟩ := gt_of hF
    obtain rfl := Option.some.inj hF
    exact xr_i S hr hlk hW (bool_nar hb) rfl dX10_move_16
def fC_Cl_tellChoice (σ : SC) (a1 : Int32) (a2 : Int32) : Option (Int32 × SC) :=
  if xn σ 1 ≤ (xn σ 3) then none else
  Option.bind (fC_Co_tell σ ((xn σ 3)) a1 a2) (fun u1 =>
  some (u1.1, u1.2))
set_option maxRecDepth 100000 in
set_option maxHeartbeats 4000000 in
theorem cC_Cl_tellChoice (l : Launch) (D : va_G) (ad : Nat → Nat) (cA : Nat → ClassId) (kk : Nat → Nat) (A : Nat → Prop) (aM aC aE : Nat → Nat) (X : va_W) {σ : SC} {a1 : Int32} {a2 : Int32} {o : Int32 × SC} (hF : fC_Cl_tellChoice σ a1 a2 = some o) : Mi l yX2_tellChoice cX2_tellChoice 3 .int { frames := 2, cells := 0, slots := 0, locals := 44 } [.ref (ad 8), .int a1, .int a2] (CP D ad cA kk A aM aC aE X σ) o.1 (CP D ad cA kk A aM aC aE X (o.2)) A := by
  refine Mi.of (own := RX2) rfl (by decide +kernel) (Nat.le_of_ble_eq_true rfl) ?_
  intro p e s m args below meth c ls S hr hlk hP hl
  have hW := CW.start hP
  have hl : lv_has ls 3 [(0, .ref (ad 8)), (1, .int a1), (2, .int a2)] := hl
  rw [fC_Cl_tellChoice] at hF
  refine lv_aload_n S.1 S.2.1 dX2_tellChoice_0 rfl (lv_at hl 0 rfl) ?_
  refine xg_X2_49 S hW dX2_tellChoice_1 ?_
  refine lv_iload_n S.1 S.2.1 dX2_tellChoice_4 rfl (lv_at hl 1 rfl) ?_
  refine lv_iload_n S.1 S.2.1 dX2_tellChoice_5 rfl (lv_at hl 2 rfl) ?_
  obtain ⟨h2, hF⟩ := gd_of hF
  obtain ⟨u1, hu1, hF⟩ := bd_of hF
  refine xc_i (k := 2) (As := [.int a1, .int a2]) (rest := []) (cC_Co_tell l D ad cA kk A aM aC aE X hu1) (xr_C hW (Nat.lt_of_not_le h2)) S hW (gd_V m_678 m_679 m_680 m_81 m_681) (by decide +kernel) ⟨Nat.le_of_ble_eq_true rfl, Nat.le_of_ble_eq_true rfl⟩ rfl hl.1 rfl (Nat.le_of_ble_eq_true rfl) ⟨Nat.le_of_ble_eq_true rfl, Nat.le_of_ble_eq_true rfl⟩ dX2_tellChoice_6 (fun H locs hW => ?_)
  obtain rfl := Option.some.inj hF
  exact xr_i S hr hlk hW rfl rfl dX2_tellChoice_9
def fC_Cl_takeRefusal (σ : SC) (a1 : Option Nat) (a2 : Int32) : Option (Int32 × SC) :=
  onull a1
  (some ((-1 : Int32), σ))
  (fun ia1 =>
  if xn σ 0 ≤ ia1 then none else
  if (xm σ 3 ia1) = (2 : Int32) then
  some ((-1 : Int32), σ)
  else
  if 0 < (xm σ 7 ia1) then
  some ((-1 : Int32), σ)
  else
  Option.bind (fC_isWithin a2 ((1 : Int32)) ((30 : Int32))) (fun u2 =>
  if u2 = 0 then
  some ((-1 : Int32), σ)
  else
  Option.bind (fC_Cl_lagOf σ ((xm σ 2 ia1))) (fun u3 =>
  some ((xm (ym σ 7 ia1 ((a2 + u3))) 7 ia1), ym σ 7 ia1 ((a2 + u3))))))
set_option maxRecDepth 100000 in
set_option maxHeartbeats 4000000 in
theorem cC_Cl_takeRefusal (l : Launch) (D : va_G) (ad : Nat → Nat) (cA : Nat → ClassId) (kk : Nat → Nat) (A : Nat → Prop) (aM aC aE : Nat → Nat) (X : va_W) {σ : SC} {a1 : Option Nat} {a2 : Int32} {o : Int32 × SC} (hF : fC_Cl_takeRefusal σ a1 a2 = some o) : Mi l yX2_takeRefusal cX2_takeRefusal 3 .int { frames := 3, cells := 0, slots := 0, locals := 63 } [.ref (ad 8), va_rf (a1.map aM), .int a2] (CP D ad cA kk A aM aC aE X σ) o.1 (CP D ad cA kk A aM aC aE X (o.2)) A := by
  rw [fC_Cl_takeRefusal] at hF
  rcases on_of hF with ⟨he, hF⟩ | ⟨ia1, he, hF⟩
  · subst he
    refine Mi.of (own := RX2) rfl (by decide +kernel) (Nat.le_of_ble_eq_true rfl) ?_
    intro p e s m args below meth c ls S hr hlk hP hl
    have hW := CW.start hP
    have hl : lv_has ls 3 [(0, .ref (ad 8)), (1, .null), (2, .int a2)] := hl
    refine lv_aload_nN S.1 S.2.1 dX2_takeRefusal_0 rfl (lv_at hl 1 rfl) ?_
    refine lv_ifnullN (tgt := 29) S.1 S.2.1 dX2_takeRefusal_1 (by decide) ?_
    refine lv_iconst (v := (-1 : Int32)) S.1 S.2.1 dX2_takeRefusal_29 (by decide) ?_
    obtain rfl := Option.some.inj hF
    exact xr_i S hr hlk hW rfl rfl dX2_takeRefusal_30
  · subst he
    refine Mi.of (own := RX2) rfl (by decide +kernel) (Nat.le_of_ble_eq_true rfl) ?_
    intro p e s m args below meth c ls S hr hlk hP hl
    have hW := CW.start hP
    have hl : lv_has ls 3 [(0, .ref (ad 8)), (1, .ref (aM ia1)), (2, .int a2)] := hl
    refine lv_aload_n S.1 S.2.1 dX2_takeRefusal_0 rfl (lv_at hl 1 rfl) ?_
    refine lv_ifnull S.1 S.2.1 dX2_takeRefusal_1 ?_
    refine lv_aload_n S.1 S.2.1 dX2_takeRefusal_4 rfl (lv_at hl 1 rfl) ?_
    obtain ⟨h1, hF⟩ := gd_of hF
    refine xg_X2_75 S hW (Nat.lt_of_not_le h1) dX2_takeRefusal_5 ?_
    refine lv_iconst (v := (2 : Int32)) S.1 S.2.1 dX2_takeRefusal_8 (by decide) ?_
    refine lv_icmp_eq (tgt := 29) S.1 S.2.1 dX2_takeRefusal_9 (by decide) (fun hc => ?_) (fun hc => ?_)
    · have hF := it_pos hc hF
      refine lv_iconst (v := (-1 : Int32)) S.1 S.2.1 dX2_takeRefusal_29 (by decide) ?_
      obtain rfl := Option.some.inj hF
      exact xr_i S hr hlk hW rfl rfl dX2_takeRefusal_30
    · have hF := it_neg hc hF
      refine lv_aload_n S.1 S.2.1 dX2_takeRefusal_12 rfl (lv_at hl 1 rfl) ?_
      refine xg_X2_126 S hW (Nat.lt_of_not_le h1) dX2_takeRefusal_13 ?_
      refine lv_if_gt (tgt := 29) S.1 S.2.1 dX2_takeRefusal_16 (by decide) (fun hc => ?_) (fun hc => ?_)
      · have hF := it_pos hc hF
        refine lv_iconst (v := (-1 : Int32)) S.1 S.2.1 dX2_takeRefusal_29 (by decide) ?_
        obtain rfl := Option.some.inj hF
        exact xr_i S hr hlk hW rfl rfl dX2_takeRefusal_30
      · have hF := it_neg hc hF
        refine lv_iload_n S.1 S.2.1 dX2_takeRefusal_19 rfl (lv_at hl 2 rfl) ?_
        refine lv_iconst (v := (1 : Int32)) S.1 S.2.1 dX2_takeRefusal_20 (by decide) ?_
        refine lv_bipush (v := (30 : Int32)) S.1 S.2.1 dX2_takeRefusal_21 (by decide) ?_
        obtain ⟨u2, hu2, hF⟩ := bd_of hF
        refine sc_iN (k := 3) (As := [.int a2, .int ((1 : Int32)), .int ((30 : Int32))]) (rest := []) (cC_isWithin l hu2) S hW.2.1.2.2.1 nw_23 m_242 m_2 m_243 rfl rfl (by decide +kernel) ⟨Nat.le_of_ble_eq_true rfl, Nat.le_of_ble_eq_true rfl⟩ rfl hl.1 rfl (Nat.le_of_ble_eq_true rfl) ⟨Nat.le_of_ble_eq_true rfl, Nat.le_of_ble_eq_true rfl⟩ dX2_takeRefusal_23 ?_
        refine lv_if_ne (tgt := 31) S.1 S.2.1 dX2_takeRefusal_26 (by decide) (fun hc => ?_) (fun hc => ?_)
        · have hF := it_neg hc hF
          refine lv_aload_n S.1 S.2.1 dX2_takeRefusal_31 rfl (lv_at hl 1 rfl) ?_
          refine lv_iload_n S.1 S.2.1 dX2_takeRefusal_32 rfl (lv_at hl 2 rfl) ?_
          refine lv_aload_n S.1 S.2.1 dX2_takeRefusal_33 rfl (lv_at hl 0 rfl) ?_
          refine lv_aload_n S.1 S.2.1 dX2_takeRefusal_34 rfl (lv_at hl 1 rfl) ?_
          refine xg_X2_104 S hW (Nat.lt_of_not_le h1) dX2_takeRefusal_35 ?_
          obtain ⟨u3, hu3, hF⟩ := bd_of hF
          refine xc_i (k := 1) (As := [.int ((xm σ 2 ia1))]) (rest := [.int a2, .ref (aM ia1)]) (cC_Cl_lagOf l D ad cA kk A aM aC aE X hu3) (xr_RX2 hW) S hW (gd_V m_697 m_698 m_699 m_27 m_700) (by decide +kernel) ⟨Nat.le_of_ble_eq_true rfl, Nat.le_of_ble_eq_true rfl⟩ rfl hl.1 rfl (Nat.le_of_ble_eq_true rfl) ⟨Nat.le_of_ble_eq_true rfl, Nat.le_of_ble_eq_true rfl⟩ dX2_takeRefusal_38 (fun H locs hW => ?_)
          refine lv_iadd S.1 S.2.1 dX2_takeRefusal_41 ?_
          refine xp_X2_126 S hW (Nat.lt_of_not_le h1) dX2_takeRefusal_42 (fun H locs hW => ?_)
          refine lv_aload_n S.1 S.2.1 dX2_takeRefusal_45 rfl (lv_at hl 1 rfl) ?_
          refine xg_X2_126 S hW (Nat.lt_of_not_le h1) dX2_takeRefusal_46 ?_
          obtain rfl := Option.some.inj hF
          exact xr_i S hr hlk hW rfl rfl dX2_takeRefusal_49
        · have hF := it_pos hc hF
          refine lv_iconst (v := (-1 : Int32)) S.1 S.2.1 dX2_takeRefusal_29 (by decide) ?_
          obtain rfl := Option.some.inj hF
          exact xr_i S hr hlk hW rfl rfl dX2_takeRefusal_30
def fC_Cl_judgeDebts_L22 (l1 : Int32) (l2 : Int32) (l3 : Int32) : Nat → Int32 → SC → Option (SC)
  | 0, _, _ => none
  | n + 1, x4, σ =>
    if (nI (xn σ 0)) ≤ x4 then
    some ((σ))
    else
    if x4 < 0 ∨ xn σ 0 ≤ (x4).toNatClampNeg then none else
    Option.bind (if (xm σ 3 ((x4).toNatClampNeg)) = (2 : Int32) then
    some (σ)
    else
    Option.bind (fC_Cl_judgeDebt σ (some ((x4).toNatClampNeg)) l1 l2 l3) (fun u3 =>
    some (u3))) (fun u2 =>
    fC_Cl_judgeDebts_L22 l1 l2 l3 n ((x4 + (1 : Int32))) u2)
def fC_Cl_judgeDebts (σ : SC) : Option (SC) :=
  Option.bind (fC_Cl_inForceNow σ ((4 : Int32))) (fun u1 =>
  Option.bind (fC_Cl_inForceNow σ ((5 : Int32))) (fun u2 =>
  Option.bind (fC_Cl_inForceNow σ ((6 : Int32))) (fun u3 =>
  Option.bind (fC_Cl_judgeDebts_L22 u1 u2 u3 1000 ((0 : Int32)) σ) (fun u4 =>
  some u4))))
set_option maxRecDepth 100000 in
set_option maxHeartbeats 4000000 in
theorem cC_Cl_judgeDebts (l : Launch) (D : va_G) (ad : Nat → Nat) (cA : Nat → ClassId) (kk : Nat → Nat) (A : Nat → Prop) (aM aC aE : Nat → Nat) (X : va_W) {σ : SC} {o : SC} (hF : fC_Cl_judgeDebts σ = some o) : Mv l yX2_judgeDebts cX2_judgeDebts 6 { frames := 3, cells := 0, slots := 0, locals := 68 } [.ref (ad 8)] (CP D ad cA kk A aM aC aE X σ) (CP D ad cA kk A aM aC aE X o) A := by
  refine Mv.of (own := RX2) rfl (by decide +kernel) (Nat.le_of_ble_eq_true rfl) ?_
  intro p e s m args below meth c ls S hr hlk hP hl _
  have hW := CW.start hP
  have hl : lv_has ls 6 [(0, .ref (ad 8))] := hl
  rw [fC_Cl_judgeDebts] at hF
  refine lv_aload_n S.1 S.2.1 dX2_judgeDebts_0 rfl (lv_at hl 0 rfl) ?_
  refine lv_iconst (v := (4 : Int32)) S.1 S.2.1 dX2_judgeDebts_1 (by decide) ?_
  obtain ⟨u1, hu1, hF⟩ := bd_of hF
  refine xc_i (k := 1) (As := [.int ((4 : Int32))]) (rest := []) (cC_Cl_inForceNow l D ad cA kk A aM aC aE X hu1) (xr_RX2 hW) S hW (gd_V m_520 m_521 m_522 m_27 m_523) (by decide +kernel) ⟨Nat.le_of_ble_eq_true rfl, Nat.le_of_ble_eq_true rfl⟩ rfl hl.1 rfl (Nat.le_of_ble_eq_true rfl) ⟨Nat.le_of_ble_eq_true rfl, Nat.le_of_ble_eq_true rfl⟩ dX2_judgeDebts_2 (fun H locs hW => ?_)
  refine lv_istore_n (lv' := [(1, .int u1), (0, .ref (ad 8))]) S.1 S.2.1 dX2_judgeDebts_5 rfl hl (by decide) rfl (fun ls hl => ?_)
  refine lv_aload_n S.1 S.2.1 dX2_judgeDebts_6 rfl (lv_at hl 1 rfl) ?_
  refine lv_iconst (v := (5 : Int32)) S.1 S.2.1 dX2_judgeDebts_7 (by decide) ?_
  obtain ⟨u2, hu2, hF⟩ := bd_of hF
  refine xc_i (k := 1) (As := [.int ((5 : Int32))]) (rest := []) (cC_Cl_inForceNow l D ad cA kk A aM aC aE X hu2) (xr_RX2 hW) S hW (gd_V m_520 m_521 m_522 m_27 m_523) (by decide +kernel) ⟨Nat.le_of_ble_eq_true rfl, Nat.le_of_ble_eq_true rfl⟩ rfl hl.1 rfl (Nat.le_of_ble_eq_true rfl) ⟨Nat.le_of_ble_eq_true rfl, Nat.le_of_ble_eq_true rfl⟩ dX2_judgeDebts_8 (fun H locs hW => ?_)
  refine lv_istore_n (lv' := [(2, .int u2), (1, .int u1), (0, .ref (ad 8))]) S.1 S.2.1 dX2_judgeDebts_11 rfl hl (by decide) rfl (fun ls hl => ?_)
  refine lv_aload_n S.1 S.2.1 dX2_judgeDebts_12 rfl (lv_at hl 2 rfl) ?_
  refine lv_bipush (v := (6 : Int32)) S.1 S.2.1 dX2_judgeDebts_13 (by decide) ?_
  obtain ⟨u3, hu3, hF⟩ := bd_of hF
  refine xc_i (k := 1) (As := [.int ((6 : Int32))]) (rest := []) (cC_Cl_inForceNow l D ad cA kk A aM aC aE X hu3) (xr_RX2 hW) S hW (gd_V m_520 m_521 m_522 m_27 m_523) (by decide +kernel) ⟨Nat.le_of_ble_eq_true rfl, Nat.le_of_ble_eq_true rfl⟩ rfl hl.1 rfl (Nat.le_of_ble_eq_true rfl) ⟨Nat.le_of_ble_eq_true rfl, Nat.le_of_ble_eq_true rfl⟩ dX2_judgeDebts_15 (fun H locs hW => ?_)
  refine lv_istore_n (lv' := [(3, .int u3), (2, .int u2), (1, .int u1), (0, .ref (ad 8))]) S.1 S.2.1 dX2_judgeDebts_18 rfl hl (by decide) rfl (fun ls hl => ?_)
  refine lv_iconst (v := (0 : Int32)) S.1 S.2.1 dX2_judgeDebts_19 (by decide) ?_
  refine lv_istore (lv' := [(4, .int ((0 : Int32))), (3, .int u3), (2, .int u2), (1, .int u1), (0, .ref (ad 8))]) S.1 S.2.1 dX2_judgeDebts_20 hl (by decide) rfl (fun ls hl => ?_)
  obtain ⟨u4, hX, hF⟩ := bd_of hF
  refine jn1 (fun H locs ls => lv_has ls 6 [] ∧ CW D ad cA kk A aM aC aE X u4 s H locs) 71 [] (fun H locs ls hJ => ?_) (fun Ju4 => ?_)
  · obtain ⟨hl, hW⟩ := hJ
    obtain rfl := Option.some.inj hF
    exact xr_v S hr hlk hW dX2_judgeDebts_71
  · refine lpW (fun (xu4 : Int32 × SC) H locs ls => lv_has ls 6 [(0, .ref (ad 8)), (1, .int u1), (2, .int u2), (3, .int u3), (4, .int xu4.1)] ∧ CW D ad cA kk A aM aC aE X xu4.2 s H locs) 22 (fun n xu4 => fC_Cl_judgeDebts_L22 u1 u2 u3 n xu4.1 xu4.2) u4 (fun _ => rfl) (fun n xu4 ihu4 hF H locs ls hJ => ?_) 1000 ((0 : Int32), σ) hX _ _ _ ⟨lv_sub hl [4, 3, 2, 1, 0] rfl, hW⟩
    obtain ⟨hl, hW⟩ := hJ
    have hF : fC_Cl_judgeDebts_L22 u1 u2 u3 (n + 1) xu4.1 xu4.2 = some u4 := hF
    rw [fC_Cl_judgeDebts_L22] at hF
    refine lv_iload S.1 S.2.1 dX2_judgeDebts_22 (lv_at hl 4 rfl) ?_
    refine lv_aload_n S.1 S.2.1 dX2_judgeDebts_24 rfl (lv_at hl 0 rfl) ?_
    refine xg_X2_32 S hW dX2_judgeDebts_25 ?_
    refine xsz_0 S hW (gd_V m_516 m_517 m_518 m_72 m_519) ⟨Nat.le_of_ble_eq_true rfl, Nat.le_of_ble_eq_true rfl⟩ hl.1 (Nat.le_of_ble_eq_true rfl) ⟨Nat.le_of_ble_eq_true rfl, Nat.le_of_ble_eq_true rfl⟩ dX2_judgeDebts_28 ?_
    refine lv_icmp_ge (tgt := 71) S.1 S.2.1 dX2_judgeDebts_31 (by decide) (fun hc => ?_) (fun hc => ?_)
    · have hF := it_pos hc hF
      obtain rfl := Option.some.inj hF
      exact Ju4 _ _ _ ⟨lv_sub hl [] rfl, hW⟩
    · have hF := it_neg hc hF
      refine lv_aload_n S.1 S.2.1 dX2_judgeDebts_34 rfl (lv_at hl 0 rfl) ?_
      refine xg_X2_32 S hW dX2_judgeDebts_35 ?_
      refine lv_iload S.1 S.2.1 dX2_judgeDebts_38 (lv_at hl 4 rfl) ?_
      obtain ⟨h6, hF⟩ := gd_of hF
      refine xgt_0 h6 S hW (gd_V m_579 m_580 m_581 m_72 m_582) ⟨Nat.le_of_ble_eq_true rfl, Nat.le_of_ble_eq_true rfl⟩ hl.1 (Nat.le_of_ble_eq_true rfl) ⟨Nat.le_of_ble_eq_true rfl, Nat.le_of_ble_eq_true rfl⟩ dX2_judgeDebts_40 ?_
      refine xcast_M S hW (Nat.lt_of_not_le (fun q => h6 (Or.inr q))) m_510 dX2_judgeDebts_43 ?_
      refine lv_astore (lv' := [(5, .ref (aM ((xu4.1).toNatClampNeg))), (0, .ref (ad 8)), (1, .int u1), (2, .int u2), (3, .int u3), (4, .int xu4.1)]) S.1 S.2.1 dX2_judgeDebts_46 hl (by decide) rfl (fun ls hl => ?_)
      refine lv_aload S.1 S.2.1 dX2_judgeDebts_48 (lv_at hl 0 rfl) ?_
      refine xg_X2_75 S hW (Nat.lt_of_not_le (fun q => h6 (Or.inr q))) dX2_judgeDebts_50 ?_
      refine lv_iconst (v := (2 : Int32)) S.1 S.2.1 dX2_judgeDebts_53 (by decide) ?_
      obtain ⟨u7, hX, hF⟩ := bd_of hF
      refine jn1 (fun H locs ls => lv_has ls 6 [(0, .ref (ad 8)), (1, .int u1), (2, .int u2), (3, .int u3), (4, .int xu4.1)] ∧ CW D ad cA kk A aM aC aE X u7 s H locs) 65 [] (fun H locs ls hJ => ?_) (fun Ju7 => ?_)
      · obtain ⟨hl, hW⟩ := hJ
        refine lv_iinc (v := (xu4.1 + (1 : Int32))) (lv' := [(4, .int ((xu4.1 + (1 : Int32)))), (0, .ref (ad 8)), (1, .int u1), (2, .int u2), (3, .int u3)]) S.1 S.2.1 dX2_judgeDebts_65 hl (k := 4) rfl rfl (by decide) rfl (fun ls hl => ?_)
        refine lv_goto (tgt := 22) S.1 S.2.1 dX2_judgeDebts_68 (by decide) ?_
        exact ihu4 ((xu4.1 + (1 : Int32)), u7) hF _ _ _ ⟨lv_sub hl [1, 2, 3, 4, 0] rfl, hW⟩
      · have hF := hX
        refine lv_icmp_eq (tgt := 65) S.1 S.2.1 dX2_judgeDebts_54 (by decide) (fun hc => ?_) (fun hc => ?_)
        · have hF := it_pos hc hF
          obtain rfl := Option.some.inj hF
          exact Ju7 _ _ _ ⟨lv_sub hl [1, 2, 3, 4, 5] rfl, hW⟩
        · have hF := it_neg hc hF
          refine lv_aload S.1 S.2.1 dX2_judgeDebts_57 (lv_at hl 0 rfl) ?_
          refine lv_iload_n S.1 S.2.1 dX2_judgeDebts_59 rfl (lv_at hl 2 rfl) ?_
          refine lv_iload_n S.1 S.2.1 dX2_judgeDebts_60 rfl (lv_at hl 3 rfl) ?_
          refine lv_iload_n S.1 S.2.1 dX2_judgeDebts_61 rfl (lv_at hl 4 rfl) ?_
          obtain ⟨u8, hu8, hF⟩ := bd_of hF
          refine xs_v (k := 4) (As := [.ref (aM ((xu4.1).toNatClampNeg)), .int u1, .int u2, .int u3]) (rest := []) (cC_Cl_judgeDebt l D ad cA kk A aM aC aE X hu8) S hW (gd_S m_760 m_761 m_27 m_762) (by decide +kernel) ⟨Nat.le_of_ble_eq_true rfl, Nat.le_of_ble_eq_true rfl⟩ rfl hl.1 rfl (Nat.le_of_ble_eq_true rfl) ⟨Nat.le_of_ble_eq_true rfl, Nat.le_of_ble_eq_true rfl⟩ dX2_judgeDebts_62 (fun H locs hW => ?_)
          obtain rfl := Option.some.inj hF
          exact Ju7 _ _ _ ⟨lv_sub hl [1, 2, 3, 4, 5] rfl, hW⟩
def fC_B_clear (σ : SC) (a1 : Int32) (a2 : Int32) (a3 : Int32) : Option (Int32 × SC) :=
  Option.bind (fC_Cl_findChoice σ a1) (fun u1 =>
  onull u1
  (some ((-1 : Int32), σ))
  (fun iu1 =>
  if xn σ 1 ≤ iu1 then none else
  Option.bind (fC_Co_dispose σ iu1 a2 a3) (fun u2 =>
  some (u2.1, u2.2))))
set_option maxRecDepth 100000 in
set_option maxHeartbeats 4000000 in
theorem cC_B_clear (l : Launch) (D : va_G) (ad : Nat → Nat) (cA : Nat → ClassId) (kk : Nat → Nat) (A : Nat → Prop) (aM aC aE : Nat → Nat) (X : va_W) {σ : SC} {a1 : Int32} {a2 : Int32} {a3 : Int32} {o : Int32 × SC} (hF : fC_B_clear σ a1 a2 a3 = some o) : Mi l yX10_clear cX10_clear 5 .int { frames := 4, cells := 0, slots := 0, locals := 85 } [.ref (ad 0), .int a1, .int a2, .int a3] (CP D ad cA kk A aM aC aE X σ) o.1 (CP D ad cA kk A aM aC aE X (o.2)) A := by
  refine Mi.of (own := RX10) rfl (by decide +kernel) (Nat.le_of_ble_eq_true rfl) ?_
  intro p e s m args below meth c ls S hr hlk hP hl
  have hW := CW.start hP
  have hl : lv_has ls 5 [(0, .ref (ad 0)), (1, .int a1), (2, .int a2), (3, .int a3)] := hl
  rw [fC_B_clear] at hF
  refine lv_aload_n S.1 S.2.1 dX10_clear_0 rfl (lv_at hl 0 rfl) ?_
  refine xg_X10_37 S hW dX10_clear_1 ?_
  refine lv_iload_n S.1 S.2.1 dX10_clear_4 rfl (lv_at hl 1 rfl) ?_
  obtain ⟨u1, hu1, hF⟩ := bd_of hF
  refine xc_o (k := 1) (As := [.int a1]) (rest := []) (cC_Cl_findChoice l D ad cA kk A aM aC aE X hu1) (xr_RX2 hW) S hW (gd_V m_787 m_718 m_719 m_27 m_720) (by decide +kernel) ⟨Nat.le_of_ble_eq_true rfl, Nat.le_of_ble_eq_true rfl⟩ rfl hl.1 rfl (Nat.le_of_ble_eq_true rfl) ⟨Nat.le_of_ble_eq_true rfl, Nat.le_of_ble_eq_true rfl⟩ dX10_clear_5 (fun H locs hW => ?_)
  rcases on_of hF with ⟨he, hF⟩ | ⟨iu1, he, hF⟩
  · refine W.eq (g2 := F0 m 8 ls (.null :: [])) (by rw [he]; rfl) ?_
    refine lv_astoreN (lv' := [(4, .null), (0, .ref (ad 0)), (1, .int a1), (2, .int a2), (3, .int a3)]) S.1 S.2.1 dX10_clear_8 hl (by decide) rfl (fun ls hl => ?_)
    refine lv_aloadN S.1 S.2.1 dX10_clear_10 (lv_at hl 0 rfl) ?_
    refine lv_ifnonnullN S.1 S.2.1 dX10_clear_12 ?_
    refine lv_iconst (v := (-1 : Int32)) S.1 S.2.1 dX10_clear_15 (by decide) ?_
    obtain rfl := Option.some.inj hF
    exact xr_i S hr hlk hW rfl rfl dX10_clear_16
  · refine W.eq (g2 := F0 m 8 ls (.ref (aC iu1) :: [])) (by rw [he]; rfl) ?_
    refine lv_astore (lv' := [(4, .ref (aC iu1)), (0, .ref (ad 0)), (1, .int a1), (2, .int a2), (3, .int a3)]) S.1 S.2.1 dX10_clear_8 hl (by decide) rfl (fun ls hl => ?_)
    refine lv_aload S.1 S.2.1 dX10_clear_10 (lv_at hl 0 rfl) ?_
    refine lv_ifnonnull (tgt := 17) S.1 S.2.1 dX10_clear_12 (by decide) ?_
    refine lv_aload S.1 S.2.1 dX10_clear_17 (lv_at hl 0 rfl) ?_
    refine lv_iload_n S.1 S.2.1 dX10_clear_19 rfl (lv_at hl 3 rfl) ?_
    refine lv_iload_n S.1 S.2.1 dX10_clear_20 rfl (lv_at hl 4 rfl) ?_
    obtain ⟨h3, hF⟩ := gd_of hF
    obtain ⟨u2, hu2, hF⟩ := bd_of hF
    refine xc_i (k := 2) (As := [.int a2, .int a3]) (rest := []) (cC_Co_dispose l D ad cA kk A aM aC aE X hu2) (xr_C hW (Nat.lt_of_not_le h3)) S hW (gd_V m_788 m_789 m_790 m_81 m_791) (by decide +kernel) ⟨Nat.le_of_ble_eq_true rfl, Nat.le_of_ble_eq_true rfl⟩ rfl hl.1 rfl (Nat.le_of_ble_eq_true rfl) ⟨Nat.le_of_ble_eq_true rfl, Nat.le_of_ble_eq_true rfl⟩ dX10_clear_21 (fun H locs hW => ?_)
    obtain rfl := Option.some.inj hF
    exact xr_i S hr hlk hW rfl rfl dX10_clear_24
def fC_B_count (σ : SC) (a1 : Int32) : Option (Int32) :=
  if a1 = (0 : Int32) then
  some ((xz σ 6))
  else if a1 = (1 : Int32) then
  some ((nI (xn σ 0)))
  else if a1 = (2 : Int32) then
  Option.bind (fC_Cl_membersIn σ ((0 : Int32))) (fun u1 =>
  some u1)
  else if a1 = (3 : Int32) then
  Option.bind (fC_Cl_membersIn σ ((1 : Int32))) (fun u2 =>
  some u2)
  else if a1 = (4 : Int32) then
  Option.bind (fC_Cl_membersIn σ ((2 : Int32))) (fun u3 =>
  some u3)
  else if a1 = (5 : Int32) then
  Option.bind (fC_Le_size σ) (fun u4 =>
  some u4)
  else if a1 = (6 : Int32) then
  some ((xz σ 1))
  else if a1 = (7 : Int32) then
  some ((xz σ 0))
  else 
  some ((-1 : Int32))
set_option maxRecDepth 100000 in
set_option maxHeartbeats 4000000 in
theorem cC_B_count (l : Launch) (D : va_G) (ad : Nat → Nat) (cA : Nat → ClassId) (kk : Nat → Nat) (A : Nat → Prop) (aM aC aE : Nat → Nat) (X : va_W) {σ : SC} {a1 : Int32} {o : Int32} (hF : fC_B_count σ a1 = some o) : Mi l yX10_count cX10_count 2 .int { frames := 4, cells := 0, slots := 0, locals := 87 } [.ref (ad 0), .int a1] (CP D ad cA kk A aM aC aE X σ) o (CP D ad cA kk A aM aC aE X σ) A := by
  refine Mi.of (own := RX10) rfl (by decide +kernel) (Nat.le_of_ble_eq_true rfl) ?_
  intro p e s m args below meth c ls S hr hlk hP hl
  have hW := CW.start hP
  have hl : lv_has ls 2 [(0, .ref (ad 0)), (1, .int a1)] := hl
  rw [fC_B_count] at hF
  refine lv_iload_n S.1 S.2.1 dX10_count_0 rfl (lv_at hl 1 rfl) ?_
  rcases Classical.em (a1 = (0 : Int32)) with hc0 | hc0
  · have hF := it_pos hc0 hF
    refine lv_tableIn (off := 47) (tgt := 48) S.1 S.2.1 dX10_count_1 (by rw [hc0]; decide) (by rw [hc0]; decide) (by rw [hc0]; decide) (by decide) ?_
    refine lv_aload_n S.1 S.2.1 dX10_count_48 rfl (lv_at hl 0 rfl) ?_
    refine xg_X10_37 S hW dX10_count_49 ?_
    refine xg_X10_194 S hW dX10_count_52 ?_
    obtain rfl := Option.some.inj hF
    exact xr_i S hr hlk hW rfl rfl dX10_count_55
  · have hF := it_neg hc0 hF
    rcases Classical.em (a1 = (1 : Int32)) with hc1 | hc1
    · have hF := it_pos hc1 hF
      refine lv_tableIn (off := 55) (tgt := 56) S.1 S.2.1 dX10_count_1 (by rw [hc1]; decide) (by rw [hc1]; decide) (by rw [hc1]; decide) (by decide) ?_
      refine lv_aload_n S.1 S.2.1 dX10_count_56 rfl (lv_at hl 0 rfl) ?_
      refine xg_X10_37 S hW dX10_count_57 ?_
      refine xg_X10_197 S hW dX10_count_60 ?_
      refine xsz_0 S hW (gd_V m_810 m_517 m_518 m_72 m_519) ⟨Nat.le_of_ble_eq_true rfl, Nat.le_of_ble_eq_true rfl⟩ hl.1 (Nat.le_of_ble_eq_true rfl) ⟨Nat.le_of_ble_eq_true rfl, Nat.le_of_ble_eq_true rfl⟩ dX10_count_63 ?_
      obtain rfl := Option.some.inj hF
      exact xr_i S hr hlk hW rfl rfl dX10_count_66
    · have hF := it_neg hc1 hF
      rcases Classical.em (a1 = (2 : Int32)) with hc2 | hc2
      · have hF := it_pos hc2 hF
        refine lv_tableIn (off := 66) (tgt := 67) S.1 S.2.1 dX10_count_1 (by rw [hc2]; decide) (by rw [hc2]; decide) (by rw [hc2]; decide) (by decide) ?_
        refine lv_aload_n S.1 S.2.1 dX10_count_67 rfl (lv_at hl 0 rfl) ?_
        refine xg_X10_37 S hW dX10_count_68 ?_
        refine lv_iconst (v := (0 : Int32)) S.1 S.2.1 dX10_count_71 (by decide) ?_
        obtain ⟨u1, hu1, hF⟩ := bd_of hF
        refine xc_i (k := 1) (As := [.int ((0 : Int32))]) (rest := []) (cC_Cl_membersIn l D ad cA kk A aM aC aE X hu1) (xr_RX2 hW) S hW (gd_V m_811 m_812 m_813 m_27 m_814) (by decide +kernel) ⟨Nat.le_of_ble_eq_true rfl, Nat.le_of_ble_eq_true rfl⟩ rfl hl.1 rfl (Nat.le_of_ble_eq_true rfl) ⟨Nat.le_of_ble_eq_true rfl, Nat.le_of_ble_eq_true rfl⟩ dX10_count_72 (fun H locs hW => ?_)
        obtain rfl := Option.some.inj hF
        exact xr_i S hr hlk hW rfl rfl dX10_count_75
      · have hF := it_neg hc2 hF
        rcases Classical.em (a1 = (3 : Int32)) with hc3 | hc3
        · have hF := it_pos hc3 hF
          refine lv_tableIn (off := 75) (tgt := 76) S.1 S.2.1 dX10_count_1 (by rw [hc3]; decide) (by rw [hc3]; decide) (by rw [hc3]; decide) (by decide) ?_
          refine lv_aload_n S.1 S.2.1 dX10_count_76 rfl (lv_at hl 0 rfl) ?_
          refine xg_X10_37 S hW dX10_count_77 ?_
          refine lv_iconst (v := (1 : Int32)) S.1 S.2.1 dX10_count_80 (by decide) ?_
          obtain ⟨u2, hu2, hF⟩ := bd_of hF
          refine xc_i (k := 1) (As := [.int ((1 : Int32))]) (rest := []) (cC_Cl_membersIn l D ad cA kk A aM aC aE X hu2) (xr_RX2 hW) S hW (gd_V m_811 m_812 m_813 m_27 m_814) (by decide +kernel) ⟨Nat.le_of_ble_eq_true rfl, Nat.le_of_ble_eq_true rfl⟩ rfl hl.1 rfl (Nat.le_of_ble_eq_true rfl) ⟨Nat.le_of_ble_eq_true rfl, Nat.le_of_ble_eq_true rfl⟩ dX10_count_81 (fun H locs hW => ?_)
          obtain rfl := Option.some.inj hF
          exact xr_i S hr hlk hW rfl rfl dX10_count_84
        · have hF := it_neg hc3 hF
          rcases Classical.em (a1 = (4 : Int32)) with hc4 | hc4
          · have hF := it_pos hc4 hF
            refine lv_tableIn (off := 84) (tgt := 85) S.1 S.2.1 dX10_count_1 (by rw [hc4]; decide) (by rw [hc4]; decide) (by rw [hc4]; decide) (by decide) ?_
            refine lv_aload_n S.1 S.2.1 dX10_count_85 rfl (lv_at hl 0 rfl) ?_
            refine xg_X10_37 S hW dX10_count_86 ?_
            refine lv_iconst (v := (2 : Int32)) S.1 S.2.1 dX10_count_89 (by decide) ?_
            obtain ⟨u3, hu3, hF⟩ := bd_of hF
            refine xc_i (k := 1) (As := [.int ((2 : Int32))]) (rest := []) (cC_Cl_membersIn l D ad cA kk A aM aC aE X hu3) (xr_RX2 hW) S hW (gd_V m_811 m_812 m_813 m_27 m_814) (by decide +kernel) ⟨Nat.le_of_ble_eq_true rfl, Nat.le_of_ble_eq_true rfl⟩ rfl hl.1 rfl (Nat.le_of_ble_eq_true rfl) ⟨Nat.le_of_ble_eq_true rfl, Nat.le_of_ble_eq_true rfl⟩ dX10_count_90 (fun H locs hW => ?_)
            obtain rfl := Option.some.inj hF
            exact xr_i S hr hlk hW rfl rfl dX10_count_93
          · have hF := it_neg hc4 hF
            rcases Classical.em (a1 = (5 : Int32)) with hc5 | hc5
            · have hF := it_pos hc5 hF
              refine lv_tableIn (off := 93) (tgt := 94) S.1 S.2.1 dX10_count_1 (by rw [hc5]; decide) (by rw [hc5]; decide) (by rw [hc5]; decide) (by decide) ?_
              refine lv_aload_n S.1 S.2.1 dX10_count_94 rfl (lv_at hl 0 rfl) ?_
              refine xg_X10_37 S hW dX10_count_95 ?_
              refine xg_X10_210 S hW dX10_count_98 ?_
              obtain ⟨u4, hu4, hF⟩ := bd_of hF
              refine xc_i (k := 0) (As := []) (rest := []) (cC_Le_size l D ad cA kk A aM aC aE X hu4) (xr_RX5 hW) S hW (gd_V m_815 m_816 m_817 m_77 m_818) (by decide +kernel) ⟨Nat.le_of_ble_eq_true rfl, Nat.le_of_ble_eq_true rfl⟩ rfl hl.1 rfl (Nat.le_of_ble_eq_true rfl) ⟨Nat.le_of_ble_eq_true rfl, Nat.le_of_ble_eq_true rfl⟩ dX10_count_101 (fun H locs hW => ?_)
              obtain rfl := Option.some.inj hF
              exact xr_i S hr hlk hW rfl rfl dX10_count_104
            · have hF := it_neg hc5 hF
              rcases Classical.em (a1 = (6 : Int32)) with hc6 | hc6
              · have hF := it_pos hc6 hF
                refine lv_tableIn (off := 104) (tgt := 105) S.1 S.2.1 dX10_count_1 (by rw [hc6]; decide) (by rw [hc6]; decide) (by rw [hc6]; decide) (by decide) ?_
                refine lv_aload_n S.1 S.2.1 dX10_count_105 rfl (lv_at hl 0 rfl) ?_
                refine xg_X10_19 S hW dX10_count_106 ?_
                refine xg_X10_217 S hW dX10_count_109 ?_
                obtain rfl := Option.some.inj hF
                exact xr_i S hr hlk hW rfl rfl dX10_count_112
              · have hF := it_neg hc6 hF
                rcases Classical.em (a1 = (7 : Int32)) with hc7 | hc7
                · have hF := it_pos hc7 hF
                  refine lv_tableIn (off := 112) (tgt := 113) S.1 S.2.1 dX10_count_1 (by rw [hc7]; decide) (by rw [hc7]; decide) (by rw [hc7]; decide) (by decide) ?_
                  refine lv_aload_n S.1 S.2.1 dX10_count_113 rfl (lv_at hl 0 rfl) ?_
                  refine xg_X10_10 S hW dX10_count_114 ?_
                  refine xg_X10_63 S hW dX10_count_117 ?_
                  obtain rfl := Option.some.inj hF
                  exact xr_i S hr hlk hW rfl rfl dX10_count_120
                · have hF := it_neg hc7 hF
                  have n0 := sw_ne hc0
                  have n1 := sw_ne hc1
                  have n2 := sw_ne hc2
                  have n3 := sw_ne hc3
                  have n4 := sw_ne hc4
                  have n5 := sw_ne hc5
                  have n6 := sw_ne hc6
                  have n7 := sw_ne hc7
                  refine lv_tableOut (tgt := 121) S.1 S.2.1 dX10_count_1 (by simp only [tI_0, tI_1, tI_2, tI_3, tI_4, tI_5, tI_6, tI_7] at n0 n1 n2 n3 n4 n5 n6 n7; omega) (by decide) ?_
                  refine lv_iconst (v := (-1 : Int32)) S.1 S.2.1 dX10_count_121 (by decide) ?_
                  obtain rfl := Option.some.inj hF
                  exact xr_i S hr hlk hW rfl rfl dX10_count_122
def fC_B_strike (σ : SC) (a1 : Int32) : Option (Int32 × SC) :=
  Option.bind (fC_Le_find σ a1) (fun u1 =>
  onull u1
  (some ((0 : Int32), σ))
  (fun iu1 =>
  if xn σ 2 ≤ iu1 then none else
  Option.bind (fC_En_strikeOut σ iu1 ((xz σ 6))) (fun u2 =>
  if u2.1 = 0 then
  some ((0 : Int32), u2.2)
  else
  some ((1 : Int32), u2.2))))
set_option maxRecDepth 100000 in
set_option maxHeartbeats 4000000 in
theorem cC_B_strike (l : Launch) (D : va_G) (ad : Nat → Nat) (cA : Nat → ClassId) (kk : Nat → Nat) (A : Nat → Prop) (aM aC aE : Nat → Nat) (X : va_W) {σ : SC} {a1 : Int32} {o : Int32 × SC} (hF : fC_B_strike σ a1 = some o) : Mi l yX10_strike cX10_strike 3 .boolean { frames := 4, cells := 0, slots := 0, locals := 85 } [.ref (ad 0), .int a1] (CP D ad cA kk A aM aC aE X σ) o.1 (CP D ad cA kk A aM aC aE X (o.2)) A := by
  refine Mi.of (own := RX10) rfl (by decide +kernel) (Nat.le_of_ble_eq_true rfl) ?_
  intro p e s m args below meth c ls S hr hlk hP hl
  have hW := CW.start hP
  have hl : lv_has ls 3 [(0, .ref (ad 0)), (1, .int a1)] := hl
  rw [fC_B_strike] at hF
  refine lv_aload_n S.1 S.2.1 dX10_strike_0 rfl (lv_at hl 0 rfl) ?_
  refine xg_X10_37 S hW dX10_strike_1 ?_
  refine xg_X10_210 S hW dX10_strike_4 ?_
  refine lv_iload_n S.1 S.2.1 dX10_strike_7 rfl (lv_at hl 1 rfl) ?_
  obtain ⟨u1, hu1, hF⟩ := bd_of hF
  refine xc_o (k := 1) (As := [.int a1]) (rest := []) (cC_Le_find l D ad cA kk A aM aC aE X hu1) (xr_RX5 hW) S hW (gd_V m_830 m_831 m_832 m_77 m_833) (by decide +kernel) ⟨Nat.le_of_ble_eq_true rfl, Nat.le_of_ble_eq_true rfl⟩ rfl hl.1 rfl (Nat.le_of_ble_eq_true rfl) ⟨Nat.le_of_ble_eq_true rfl, Nat.le_of_ble_eq_true rfl⟩ dX10_strike_8 (fun H locs hW => ?_)
  rcases on_of hF with ⟨he, hF⟩ | ⟨iu1, he, hF⟩
  · refine W.eq (g2 := F0 m 11 ls (.null :: [])) (by rw [he]; rfl) ?_
    refine lv_astore_nN (lv' := [(2, .null), (0, .ref (ad 0)), (1, .int a1)]) S.1 S.2.1 dX10_strike_11 rfl hl (by decide) rfl (fun ls hl => ?_)
    refine lv_aload_nN S.1 S.2.1 dX10_strike_12 rfl (lv_at hl 0 rfl) ?_
    refine lv_ifnullN (tgt := 34) S.1 S.2.1 dX10_strike_13 (by decide) ?_
    refine lv_iconst (v := (0 : Int32)) S.1 S.2.1 dX10_strike_34 (by decide) ?_
    obtain rfl := Option.some.inj hF
    exact xr_i S hr hlk hW rfl rfl dX10_strike_35
  · refine W.eq (g2 := F0 m 11 ls (.ref (aE iu1) :: [])) (by rw [he]; rfl) ?_
    refine lv_astore_n (lv' := [(2, .ref (aE iu1)), (0, .ref (ad 0)), (1, .int a1)]) S.1 S.2.1 dX10_strike_11 rfl hl (by decide) rfl (fun ls hl => ?_)
    refine lv_aload_n S.1 S.2.1 dX10_strike_12 rfl (lv_at hl 0 rfl) ?_
    refine lv_ifnull S.1 S.2.1 dX10_strike_13 ?_
    refine lv_aload_n S.1 S.2.1 dX10_strike_16 rfl (lv_at hl 0 rfl) ?_
    refine lv_aload_n S.1 S.2.1 dX10_strike_17 rfl (lv_at hl 1 rfl) ?_
    refine xg_X10_37 S hW dX10_strike_18 ?_
    refine xg_X10_194 S hW dX10_strike_21 ?_
    obtain ⟨h3, hF⟩ := gd_of hF
    obtain ⟨u2, hu2, hF⟩ := bd_of hF
    refine xc_i (k := 1) (As := [.int ((xz σ 6))]) (rest := []) (cC_En_strikeOut l D ad cA kk A aM aC aE X hu2) (xr_E hW (Nat.lt_of_not_le h3)) S hW (gd_V m_844 m_845 m_846 m_548 m_847) (by decide +kernel) ⟨Nat.le_of_ble_eq_true rfl, Nat.le_of_ble_eq_true rfl⟩ rfl hl.1 rfl (Nat.le_of_ble_eq_true rfl) ⟨Nat.le_of_ble_eq_true rfl, Nat.le_of_ble_eq_true rfl⟩ dX10_strike_24 (fun H locs hW => ?_)
    refine lv_if_eq (tgt := 34) S.1 S.2.1 dX10_strike_27 (by decide) (fun hc => ?_) (fun hc => ?_)
    · have hF := it_pos hc hF
      refine lv_iconst (v := (0 : Int32)) S.1 S.2.1 dX10_strike_34 (by decide) ?_
      obtain rfl := Option.some.inj hF
      exact xr_i S hr hlk hW rfl rfl dX10_strike_35
    · have hF := it_neg hc hF
      refine lv_iconst (v := (1 : Int32)) S.1 S.2.1 dX10_strike_30 (by decide) ?_
      refine lv_goto (tgt := 35) S.1 S.2.1 dX10_strike_31 (by decide) ?_
      obtain rfl := Option.some.inj hF
      exact xr_i S hr hlk hW rfl rfl dX10_strike_35
def fC_Le_sumKnownN_L6 (σ : SC) (l2 : Int32) (l3 : Int32) : Nat → Int64 → Int32 → Option (Int64)
  | 0, _, _ => none
  | n + 1, x4, x6 =>
    if (nI (xn σ 2)) ≤ x6 then
    some ((x4))
    else
    if x6 < 0 ∨ xn σ 2 ≤ (x6).toNatClampNeg then none else
    if xn σ 0 ≤ (xo σ ((x6).toNatClampNeg)) then none else
    none
def fC_Le_sumKnown_L6 (σ : SC) (l1 : Nat) (l2 : Int32) (l3 : Int32) : Nat → Int64 → Int32 → Option (Int64)
  | 0, _, _ => none
  | n + 1, x4, x6 =>
    if (nI (xn σ 2)) ≤ x6 then
    some ((x4))
    else
    if x6 < 0 ∨ xn σ 2 ≤ (x6).toNatClampNeg then none else
    if xn σ 0 ≤ (xo σ ((x6).toNatClampNeg)) then none else
    if xn σ 0 ≤ l1 then none else
    Option.bind (if (xm σ 0 ((xo σ ((x6).toNatClampNeg)))) = (xm σ 0 l1) then
    if l2 < (xe σ 1 ((x6).toNatClampNeg)) then
    some (x4)
    else
    Option.bind (fC_En_isStruckBy σ ((x6).toNatClampNeg) l3) (fun u5 =>
    if u5 = 0 then
    some ((x4 + (xa σ ((x6).toNatClampNeg))))
    else
    some (x4))
    else
    some (x4)) (fun u4 =>
    fC_Le_sumKnown_L6 σ l1 l2 l3 n u4 ((x6 + (1 : Int32))))
def fC_Le_sumKnown (σ : SC) (a1 : Option Nat) (a2 : Int32) (a3 : Int32) : Option (Int64) :=
  onull a1
  (Option.bind (fC_Le_sumKnownN_L6 σ a2 a3 1000 ((0 : Int64)) ((0 : Int32))) (fun u1 =>
  some u1))
  (fun ia1 =>
  Option.bind (fC_Le_sumKnown_L6 σ ia1 a2 a3 1000 ((0 : Int64)) ((0 : Int32))) (fun u5 =>
  some u5))
set_option maxRecDepth 100000 in
set_option maxHeartbeats 4000000 in
theorem cC_Le_sumKnown (l : Launch) (D : va_G) (ad : Nat → Nat) (cA : Nat → ClassId) (kk : Nat → Nat) (A : Nat → Prop) (aM aC aE : Nat → Nat) (X : va_W) {σ : SC} {a1 : Option Nat} {a2 : Int32} {a3 : Int32} {o : Int64} (hF : fC_Le_sumKnown σ a1 a2 a3 = some o) : Ml l yX5_sumKnown cX5_sumKnown 8 { frames := 3, cells := 0, slots := 0, locals := 64 } [.ref (ad 13), va_rf (a1.map aM), .int a2, .int a3] (CP D ad cA kk A aM aC aE X σ) o (CP D ad cA kk A aM aC aE X σ) A := by
  rw [fC_Le_sumKnown] at hF
  rcases on_of hF with ⟨he, hF⟩ | ⟨ia1, he, hF⟩
  · subst he
    refine Ml.of (own := RX5) rfl (by decide +kernel) (Nat.le_of_ble_eq_true rfl) ?_
    intro p e s m args below meth c ls S hr hlk hP hl
    have hW := CW.start hP
    have hl : lv_has ls 8 [(0, .ref (ad 13)), (1, .null), (2, .int a2), (3, .int a3)] := hl
    refine lv_lconst (v := (0 : Int64)) S.1 S.2.1 dX5_sumKnown_0 (by decide) ?_
    refine lv_lstore (lv' := [(4, .long ((0 : Int64))), (0, .ref (ad 13)), (1, .null), (2, .int a2), (3, .int a3)]) S.1 S.2.1 dX5_sumKnown_1 hl (by decide) rfl (fun ls hl => ?_)
    refine lv_iconst (v := (0 : Int32)) S.1 S.2.1 dX5_sumKnown_3 (by decide) ?_
    refine lv_istore (lv' := [(6, .int ((0 : Int32))), (4, .long ((0 : Int64))), (0, .ref (ad 13)), (1, .null), (2, .int a2), (3, .int a3)]) S.1 S.2.1 dX5_sumKnown_4 hl (by decide) rfl (fun ls hl => ?_)
    obtain ⟨u1, hX, hF⟩ := bd_of hF
    refine jn1 (fun H locs ls => lv_has ls 8 [(4, .long u1)] ∧ CW D ad cA kk A aM aC aE X σ s H locs) 81 [] (fun H locs ls hJ => ?_) (fun Ju1 => ?_)
    · obtain ⟨hl, hW⟩ := hJ
      refine lv_lload S.1 S.2.1 dX5_sumKnown_81 (lv_at hl 0 rfl) ?_
      obtain rfl := Option.some.inj hF
      exact xr_l S hr hlk hW rfl dX5_sumKnown_83
    · refine lpW (fun (xu1 : Int64 × Int32) H locs ls => lv_has ls 8 [(0, .ref (ad 13)), (1, .null), (2, .int a2), (3, .int a3), (4, .long xu1.1), (6, .int xu1.2)] ∧ CW D ad cA kk A aM aC aE X σ s H locs) 6 (fun n xu1 => fC_Le_sumKnownN_L6 σ a2 a3 n xu1.1 xu1.2) u1 (fun _ => rfl) (fun n xu1 ihu1 hF H locs ls hJ => ?_) 1000 ((0 : Int64), (0 : Int32)) hX _ _ _ ⟨lv_sub hl [2, 3, 4, 5, 1, 0] rfl, hW⟩
      obtain ⟨hl, hW⟩ := hJ
      have hF : fC_Le_sumKnownN_L6 σ a2 a3 (n + 1) xu1.1 xu1.2 = some u1 := hF
      rw [fC_Le_sumKnownN_L6] at hF
      refine lv_iload S.1 S.2.1 dX5_sumKnown_6 (lv_at hl 5 rfl) ?_
      refine lv_aload_n S.1 S.2.1 dX5_sumKnown_8 rfl (lv_at hl 0 rfl) ?_
      refine xg_X5_10 S hW dX5_sumKnown_9 ?_
      refine xsz_2 S hW (gd_V m_529 m_517 m_518 m_72 m_519) ⟨Nat.le_of_ble_eq_true rfl, Nat.le_of_ble_eq_true rfl⟩ hl.1 (Nat.le_of_ble_eq_true rfl) ⟨Nat.le_of_ble_eq_true rfl, Nat.le_of_ble_eq_true rfl⟩ dX5_sumKnown_12 ?_
      refine lv_icmp_ge (tgt := 81) S.1 S.2.1 dX5_sumKnown_15 (by decide) (fun hc => ?_) (fun hc => ?_)
      · have hF := it_pos hc hF
        obtain rfl := Option.some.inj hF
        exact Ju1 _ _ _ ⟨lv_sub hl [4] rfl, hW⟩
      · have hF := it_neg hc hF
        refine lv_aload_n S.1 S.2.1 dX5_sumKnown_18 rfl (lv_at hl 0 rfl) ?_
        refine xg_X5_10 S hW dX5_sumKnown_19 ?_
        refine lv_iload S.1 S.2.1 dX5_sumKnown_22 (lv_at hl 5 rfl) ?_
        obtain ⟨h3, hF⟩ := gd_of hF
        refine xgt_2 h3 S hW (gd_V m_835 m_580 m_581 m_72 m_582) ⟨Nat.le_of_ble_eq_true rfl, Nat.le_of_ble_eq_true rfl⟩ hl.1 (Nat.le_of_ble_eq_true rfl) ⟨Nat.le_of_ble_eq_true rfl, Nat.le_of_ble_eq_true rfl⟩ dX5_sumKnown_24 ?_
        refine xcast_E S hW (Nat.lt_of_not_le (fun q => h3 (Or.inr q))) m_546 dX5_sumKnown_27 ?_
        refine lv_astore (lv' := [(7, .ref (aE ((xu1.2).toNatClampNeg))), (0, .ref (ad 13)), (1, .null), (2, .int a2), (3, .int a3), (4, .long xu1.1), (6, .int xu1.2)]) S.1 S.2.1 dX5_sumKnown_30 hl (by decide) rfl (fun ls hl => ?_)
        refine lv_aload S.1 S.2.1 dX5_sumKnown_32 (lv_at hl 0 rfl) ?_
        refine xg_X5_45 S hW (Nat.lt_of_not_le (fun q => h3 (Or.inr q))) dX5_sumKnown_34 ?_
        obtain ⟨h4, hF⟩ := gd_of hF
        refine xg_X5_49 S hW (Nat.lt_of_not_le h4) dX5_sumKnown_37 ?_
        refine lv_aload_nN S.1 S.2.1 dX5_sumKnown_40 rfl (lv_at hl 2 rfl) ?_
        cases hF
  · subst he
    refine Ml.of (own := RX5) rfl (by decide +kernel) (Nat.le_of_ble_eq_true rfl) ?_
    intro p e s m args below meth c ls S hr hlk hP hl
    have hW := CW.start hP
    have hl : lv_has ls 8 [(0, .ref (ad 13)), (1, .ref (aM ia1)), (2, .int a2), (3, .int a3)] := hl
    refine lv_lconst (v := (0 : Int64)) S.1 S.2.1 dX5_sumKnown_0 (by decide) ?_
    refine lv_lstore (lv' := [(4, .long ((0 : Int64))), (0, .ref (ad 13)), (1, .ref (aM ia1)), (2, .int a2), (3, .int a3)]) S.1 S.2.1 dX5_sumKnown_1 hl (by decide) rfl (fun ls hl => ?_)
    refine lv_iconst (v := (0 : Int32)) S.1 S.2.1 dX5_sumKnown_3 (by decide) ?_
    refine lv_istore (lv' := [(6, .int ((0 : Int32))), (4, .long ((0 : Int64))), (0, .ref (ad 13)), (1, .ref (aM ia1)), (2, .int a2), (3, .int a3)]) S.1 S.2.1 dX5_sumKnown_4 hl (by decide) rfl (fun ls hl => ?_)
    obtain ⟨u5, hX, hF⟩ := bd_of hF
    refine jn1 (fun H locs ls => lv_has ls 8 [(4, .long u5)] ∧ CW D ad cA kk A aM aC aE X σ s H locs) 81 [] (fun H locs ls hJ => ?_) (fun Ju5 => ?_)
    · obtain ⟨hl, hW⟩ := hJ
      refine lv_lload S.1 S.2.1 dX5_sumKnown_81 (lv_at hl 0 rfl) ?_
      obtain rfl := Option.some.inj hF
      exact xr_l S hr hlk hW rfl dX5_sumKnown_83
    · refine lpW (fun (xu5 : Int64 × Int32) H locs ls => lv_has ls 8 [(0, .ref (ad 13)), (1, .ref (aM ia1)), (2, .int a2), (3, .int a3), (4, .long xu5.1), (6, .int xu5.2)] ∧ CW D ad cA kk A aM aC aE X σ s H locs) 6 (fun n xu5 => fC_Le_sumKnown_L6 σ ia1 a2 a3 n xu5.1 xu5.2) u5 (fun _ => rfl) (fun n xu5 ihu5 hF H locs ls hJ => ?_) 1000 ((0 : Int64), (0 : Int32)) hX _ _ _ ⟨lv_sub hl [2, 3, 4, 5, 1, 0] rfl, hW⟩
      obtain ⟨hl, hW⟩ := hJ
      have hF : fC_Le_sumKnown_L6 σ ia1 a2 a3 (n + 1) xu5.1 xu5.2 = some u5 := hF
      rw [fC_Le_sumKnown_L6] at hF
      refine lv_iload S.1 S.2.1 dX5_sumKnown_6 (lv_at hl 5 rfl) ?_
      refine lv_aload_n S.1 S.2.1 dX5_sumKnown_8 rfl (lv_at hl 0 rfl) ?_
      refine xg_X5_10 S hW dX5_sumKnown_9 ?_
      refine xsz_2 S hW (gd_V m_529 m_517 m_518 m_72 m_519) ⟨Nat.le_of_ble_eq_true rfl, Nat.le_of_ble_eq_true rfl⟩ hl.1 (Nat.le_of_ble_eq_true rfl) ⟨Nat.le_of_ble_eq_true rfl, Nat.le_of_ble_eq_true rfl⟩ dX5_sumKnown_12 ?_
      refine lv_icmp_ge (tgt := 81) S.1 S.2.1 dX5_sumKnown_15 (by decide) (fun hc => ?_) (fun hc => ?_)
      · have hF := it_pos hc hF
        obtain rfl := Option.some.inj hF
        exact Ju5 _ _ _ ⟨lv_sub hl [4] rfl, hW⟩
      · have hF := it_neg hc hF
        refine lv_aload_n S.1 S.2.1 dX5_sumKnown_18 rfl (lv_at hl 0 rfl) ?_
        refine xg_X5_10 S hW dX5_sumKnown_19 ?_
        refine lv_iload S.1 S.2.1 dX5_sumKnown_22 (lv_at hl 5 rfl) ?_
        obtain ⟨h7, hF⟩ := gd_of hF
        refine xgt_2 h7 S hW (gd_V m_835 m_580 m_581 m_72 m_582) ⟨Nat.le_of_ble_eq_true rfl, Nat.le_of_ble_eq_true rfl⟩ hl.1 (Nat.le_of_ble_eq_true rfl) ⟨Nat.le_of_ble_eq_true rfl, Nat.le_of_ble_eq_true rfl⟩ dX5_sumKnown_24 ?_
        refine xcast_E S hW (Nat.lt_of_not_le (fun q => h7 (Or.inr q))) m_546 dX5_sumKnown_27 ?_
        refine lv_astore (lv' := [(7, .ref (aE ((xu5.2).toNatClampNeg))), (0, .ref (ad 13)), (1, .ref (aM ia1)), (2, .int a2), (3, .int a3), (4, .long xu5.1), (6, .int xu5.2)]) S.1 S.2.1 dX5_sumKnown_30 hl (by decide) rfl (fun ls hl => ?_)
        refine lv_aload S.1 S.2.1 dX5_sumKnown_32 (lv_at hl 0 rfl) ?_
        refine xg_X5_45 S hW (Nat.lt_of_not_le (fun q => h7 (Or.inr q))) dX5_sumKnown_34 ?_
        obtain ⟨h8, hF⟩ := gd_of hF
        refine xg_X5_49 S hW (Nat.lt_of_not_le h8) dX5_sumKnown_37 ?_
        refine lv_aload_n S.1 S.2.1 dX5_sumKnown_40 rfl (lv_at hl 2 rfl) ?_
        obtain ⟨h9, hF⟩ := gd_of hF
        refine xg_X5_49 S hW (Nat.lt_of_not_le h9) dX5_sumKnown_41 ?_
        obtain ⟨u10, hX, hF⟩ := bd_of hF
        refine jn1 (fun H locs ls => lv_has ls 8 [(0, .ref (ad 13)), (1, .ref (aM ia1)), (2, .int a2), (3, .int a3), (4, .long u10), (6, .int xu5.2)] ∧ CW D ad cA kk A aM aC aE X σ s H locs) 75 [] (fun H locs ls hJ => ?_) (fun Ju10 => ?_)
        · obtain ⟨hl, hW⟩ := hJ
          refine lv_iinc (v := (xu5.2 + (1 : Int32))) (lv' := [(6, .int ((xu5.2 + (1 : Int32)))), (0, .ref (ad 13)), (1, .ref (aM ia1)), (2, .int a2), (3, .int a3), (4, .long u10)]) S.1 S.2.1 dX5_sumKnown_75 hl (k := 5) rfl rfl (by decide) rfl (fun ls hl => ?_)
          refine lv_goto (tgt := 6) S.1 S.2.1 dX5_sumKnown_78 (by decide) ?_
          exact ihu5 (u10, (xu5.2 + (1 : Int32))) hF _ _ _ ⟨lv_sub hl [1, 2, 3, 4, 5, 0] rfl, hW⟩
        · have hF := hX
          refine lv_icmp_ne (tgt := 75) S.1 S.2.1 dX5_sumKnown_44 (by decide) (fun hc => ?_) (fun hc => ?_)
          · have hF := it_neg hc hF
            obtain rfl := Option.some.inj hF
            exact Ju10 _ _ _ ⟨lv_sub hl [1, 2, 3, 4, 5, 6] rfl, hW⟩
          · have hF := it_pos hc hF
            refine lv_aload S.1 S.2.1 dX5_sumKnown_47 (lv_at hl 0 rfl) ?_
            refine xg_X5_53 S hW (Nat.lt_of_not_le (fun q => h7 (Or.inr q))) dX5_sumKnown_49 ?_
            refine lv_iload_n S.1 S.2.1 dX5_sumKnown_52 rfl (lv_at hl 3 rfl) ?_
            refine lv_icmp_gt (tgt := 75) S.1 S.2.1 dX5_sumKnown_53 (by decide) (fun hc => ?_) (fun hc => ?_)
            · have hF := it_pos hc hF
              obtain rfl := Option.some.inj hF
              exact Ju10 _ _ _ ⟨lv_sub hl [1, 2, 3, 4, 5, 6] rfl, hW⟩
            · have hF := it_neg hc hF
              refine lv_aload S.1 S.2.1 dX5_sumKnown_56 (lv_at hl 0 rfl) ?_
              refine lv_iload_n S.1 S.2.1 dX5_sumKnown_58 rfl (lv_at hl 4 rfl) ?_
              obtain ⟨u11, hu11, hF⟩ := bd_of hF
              refine xc_i (k := 1) (As := [.int a3]) (rest := []) (cC_En_isStruckBy l D ad cA kk A aM aC aE X hu11) (xr_E hW (Nat.lt_of_not_le (fun q => h7 (Or.inr q)))) S hW (gd_V m_863 m_864 m_865 m_548 m_866) (by decide +kernel) ⟨Nat.le_of_ble_eq_true rfl, Nat.le_of_ble_eq_true rfl⟩ rfl hl.1 rfl (Nat.le_of_ble_eq_true rfl) ⟨Nat.le_of_ble_eq_true rfl, Nat.le_of_ble_eq_true rfl⟩ dX5_sumKnown_59 (fun H locs hW => ?_)
              refine lv_if_ne (tgt := 75) S.1 S.2.1 dX5_sumKnown_62 (by decide) (fun hc => ?_) (fun hc => ?_)
              · have hF := it_neg hc hF
                obtain rfl := Option.some.inj hF
                exact Ju10 _ _ _ ⟨lv_sub hl [1, 2, 3, 4, 5, 6] rfl, hW⟩
              · have hF := it_pos hc hF
                refine lv_lload S.1 S.2.1 dX5_sumKnown_65 (lv_at hl 5 rfl) ?_
                refine lv_aload S.1 S.2.1 dX5_sumKnown_67 (lv_at hl 0 rfl) ?_
                refine xg_X5_60 S hW (Nat.lt_of_not_le (fun q => h7 (Or.inr q))) dX5_sumKnown_69 ?_
                refine lv_ladd S.1 S.2.1 dX5_sumKnown_72 ?_
                refine lv_lstore (lv' := [(4, .long ((xu5.1 + (xa σ ((xu5.2).toNatClampNeg))))), (7, .ref (aE ((xu5.2).toNatClampNeg))), (0, .ref (ad 13)), (1, .ref (aM ia1)), (2, .int a2), (3, .int a3), (6, .int xu5.2)]) S.1 S.2.1 dX5_sumKnown_73 hl (by decide) rfl (fun ls hl => ?_)
                obtain rfl := Option.some.inj hF
                exact Ju10 _ _ _ ⟨lv_sub hl [2, 3, 4, 5, 0, 6] rfl, hW⟩
def fC_B_chance (σ : SC) (a1 : Int32) (a2 : Int32) : Option (Int32 × SC) :=
  Option.bind (fC_Ch_setPercent σ a1 a2) (fun u1 =>
  if u1.1 = 0 ∨ u1.1 = 1 then some (u1.1, u1.2) else none)
set_option maxRecDepth 100000 in
set_option maxHeartbeats 4000000 in
theorem cC_B_chance (l : Launch) (D : va_G) (ad : Nat → Nat) (cA : Nat → ClassId) (kk : Nat → Nat) (A : Nat → Prop) (aM aC aE : Nat → Nat) (X : va_W) {σ : SC} {a1 : Int32} {a2 : Int32} {o : Int32 × SC} (hF : fC_B_chance σ a1 a2 = some o) : Mi l yX10_chance cX10_chance 3 .boolean { frames := 3, cells := 0, slots := 0, locals := 64 } [.ref (ad 0), .int a1, .int a2] (CP D ad cA kk A aM aC aE X σ) o.1 (CP D ad cA kk A aM aC aE X (o.2)) A := by
  refine Mi.of (own := RX10) rfl (by decide +kernel) (Nat.le_of_ble_eq_true rfl) ?_
  intro p e s m args below meth c ls S hr hlk hP hl
  have hW := CW.start hP
  have hl : lv_has ls 3 [(0, .ref (ad 0)), (1, .int a1), (2, .int a2)] := hl
  rw [fC_B_chance] at hF
  refine lv_aload_n S.1 S.2.1 dX10_chance_0 rfl (lv_at hl 0 rfl) ?_
  refine xg_X10_44 S hW dX10_chance_1 ?_
  refine lv_iload_n S.1 S.2.1 dX10_chance_4 rfl (lv_at hl 1 rfl) ?_
  refine lv_iload_n S.1 S.2.1 dX10_chance_5 rfl (lv_at hl 2 rfl) ?_
  obtain ⟨u1, hu1, hF⟩ := bd_of hF
  refine xc_i (k := 2) (As := [.int a1, .int a2]) (rest := []) (cC_Ch_setPercent l D ad cA kk A aM aC aE X hu1) (xr_RX0 hW) S hW (gd_V m_875 m_876 m_877 m_31 m_878) (by decide +kernel) ⟨Nat.le_of_ble_eq_true rfl, Nat.le_of_ble_eq_true rfl⟩ rfl hl.1 rfl (Nat.le_of_ble_eq_true rfl) ⟨Nat.le_of_ble_eq_true rfl, Nat.le_of_ble_eq_true rfl⟩ dX10_chance_6 (fun H locs hW => ?_)
  obtain ⟨hb, hF⟩ := gt_of hF
  obtain rfl := Option.some.inj hF
  exact xr_i S hr hlk hW (bool_nar hb) rfl dX10_chance_9
def fC_Ch_countWays_L17 (l1 : Int32) (l2 : Int32) : Nat → Int32 → SC → Option (SC)
  | 0, _, _ => none
  | n + 1, x3, σ =>
    if l1 ≤ x3 then
    some ((σ))
    else
    if (8 : Int32) ≤ x3 then
    some ((σ))
    else
    if ((l2 >>> (((2 : Int32) * x3) &&& 31)) &&& (3 : Int32)) < 0 ∨ 4 ≤ (((l2 >>> (((2 : Int32) * x3) &&& 31)) &&& (3 : Int32))).toNatClampNeg then none else
    Option.bind (fC_Ch_addOne σ ((xf σ 6 (((l2 >>> (((2 : Int32) * x3) &&& 31)) &&& (3 : Int32))).toNatClampNeg))) (fun u2 =>
    fC_Ch_countWays_L17 l1 l2 n ((x3 + (1 : Int32))) u2)
def fC_Ch_countWays (σ : SC) (a1 : Int32) (a2 : Int32) : Option (SC) :=
  Option.bind (fC_fill17 σ ((0 : Int64))) (fun u1 =>
  if (0 : Int32) < 0 ∨ 9 ≤ ((0 : Int32)).toNatClampNeg then none else
  Option.bind (fC_Ch_countWays_L17 a1 a2 1000 ((0 : Int32)) (yg u1 ((0 : Int32)).toNatClampNeg ((1 : Int64)))) (fun u3 =>
  some u3))
set_option maxRecDepth 100000 in
set_option maxHeartbeats 4000000 in
theorem cC_Ch_countWays (l : Launch) (D : va_G) (ad : Nat → Nat) (cA : Nat → ClassId) (kk : Nat → Nat) (A : Nat → Prop) (aM aC aE : Nat → Nat) (X : va_W) {σ : SC} {a1 : Int32} {a2 : Int32} {o : SC} (hF : fC_Ch_countWays σ a1 a2 = some o) : Mv l yX0_countWays cX0_countWays 4 { frames := 1, cells := 0, slots := 0, locals := 24 } [.ref (ad 15), .int a1, .int a2] (CP D ad cA kk A aM aC aE X σ) (CP D ad cA kk A aM aC aE X o) A := by
  refine Mv.of (own := RX0) rfl (by decide +kernel) (Nat.le_of_ble_eq_true rfl) ?_
  intro p e s m args below meth c ls S hr hlk hP hl _
  have hW := CW.start hP
  have hl : lv_has ls 4 [(0, .ref (ad 15)), (1, .int a1), (2, .int a2)] := hl
  rw [fC_Ch_countWays] at hF
  refine lv_aload_n S.1 S.2.1 dX0_countWays_0 rfl (lv_at hl 0 rfl) ?_
  refine xg_X0_19 S hW dX0_countWays_1 ?_
  refine lv_lconst (v := (0 : Int64)) S.1 S.2.1 dX0_countWays_4 (by decide) ?_
  obtain ⟨u1, hu1, hF⟩ := bd_of hF
  refine xs_v (k := 2) (As := [.ref (ad 17), .long ((0 : Int64))]) (rest := []) (cC_fill17 l D ad cA kk A aM aC aE X hu1) S hW (gd_S m_896 m_897 m_86 m_898) (by decide +kernel) ⟨Nat.le_of_ble_eq_true rfl, Nat.le_of_ble_eq_true rfl⟩ rfl hl.1 rfl (Nat.le_of_ble_eq_true rfl) ⟨Nat.le_of_ble_eq_true rfl, Nat.le_of_ble_eq_true rfl⟩ dX0_countWays_5 (fun H locs hW => ?_)
  refine lv_aload_n S.1 S.2.1 dX0_countWays_8 rfl (lv_at hl 0 rfl) ?_
  refine xg_X0_19 S hW dX0_countWays_9 ?_
  refine lv_iconst (v := (0 : Int32)) S.1 S.2.1 dX0_countWays_12 (by decide) ?_
  refine lv_lconst (v := (1 : Int64)) S.1 S.2.1 dX0_countWays_13 (by decide) ?_
  obtain ⟨h2, hF⟩ := gd_of hF
  refine xs_17 S hW h2 dX0_countWays_14 (fun H locs hW => ?_)
  refine lv_iconst (v := (0 : Int32)) S.1 S.2.1 dX0_countWays_15 (by decide) ?_
  refine lv_istore_n (lv' := [(3, .int ((0 : Int32))), (0, .ref (ad 15)), (1, .int a1), (2, .int a2)]) S.1 S.2.1 dX0_countWays_16 rfl hl (by decide) rfl (fun ls hl => ?_)
  obtain ⟨u3, hX, hF⟩ := bd_of hF
  refine jn1 (fun H locs ls => lv_has ls 4 [] ∧ CW D ad cA kk A aM aC aE X u3 s H locs) 50 [] (fun H locs ls hJ => ?_) (fun Ju3 => ?_)
  · obtain ⟨hl, hW⟩ := hJ
    obtain rfl := Option.some.inj hF
    exact xr_v S hr hlk hW dX0_countWays_50
  · refine lpW (fun (xu3 : Int32 × SC) H locs ls => lv_has ls 4 [(0, .ref (ad 15)), (1, .int a1), (2, .int a2), (3, .int xu3.1)] ∧ CW D ad cA kk A aM aC aE X xu3.2 s H locs) 17 (fun n xu3 => fC_Ch_countWays_L17 a1 a2 n xu3.1 xu3.2) u3 (fun _ => rfl) (fun n xu3 ihu3 hF H locs ls hJ => ?_) 1000 ((0 : Int32), yg u1 ((0 : Int32)).toNatClampNeg ((1 : Int64))) hX _ _ _ ⟨lv_sub hl [1, 2, 3, 0] rfl, hW⟩
    obtain ⟨hl, hW⟩ := hJ
    have hF : fC_Ch_countWays_L17 a1 a2 (n + 1) xu3.1 xu3.2 = some u3 := hF
    rw [fC_Ch_countWays_L17] at hF
    refine lv_iload_n S.1 S.2.1 dX0_countWays_17 rfl (lv_at hl 3 rfl) ?_
    refine lv_iload_n S.1 S.2.1 dX0_countWays_18 rfl (lv_at hl 1 rfl) ?_
    refine lv_icmp_ge (tgt := 50) S.1 S.2.1 dX0_countWays_19 (by decide) (fun hc => ?_) (fun hc => ?_)
    · have hF := it_pos hc hF
      obtain rfl := Option.some.inj hF
      exact Ju3 _ _ _ ⟨lv_sub hl [] rfl, hW⟩
    · have hF := it_neg hc hF
      refine lv_iload_n S.1 S.2.1 dX0_countWays_22 rfl (lv_at hl 3 rfl) ?_
      refine lv_bipush (v := (8 : Int32)) S.1 S.2.1 dX0_countWays_23 (by decide) ?_
      refine lv_icmp_ge (tgt := 50) S.1 S.2.1 dX0_countWays_25 (by decide) (fun hc => ?_) (fun hc => ?_)
      · have hF := it_pos hc hF
        obtain rfl := Option.some.inj hF
        exact Ju3 _ _ _ ⟨lv_sub hl [] rfl, hW⟩
      · have hF := it_neg hc hF
        refine lv_aload_n S.1 S.2.1 dX0_countWays_28 rfl (lv_at hl 0 rfl) ?_
        refine lv_aload_n S.1 S.2.1 dX0_countWays_29 rfl (lv_at hl 0 rfl) ?_
        refine xg_X0_9 S hW dX0_countWays_30 ?_
        refine lv_iload_n S.1 S.2.1 dX0_countWays_33 rfl (lv_at hl 2 rfl) ?_
        refine lv_iconst (v := (2 : Int32)) S.1 S.2.1 dX0_countWays_34 (by decide) ?_
        refine lv_iload_n S.1 S.2.1 dX0_countWays_35 rfl (lv_at hl 3 rfl) ?_
        refine lv_imul S.1 S.2.1 dX0_countWays_36 ?_
        refine lv_ishr S.1 S.2.1 dX0_countWays_37 ?_
        refine lv_iconst (v := (3 : Int32)) S.1 S.2.1 dX0_countWays_38 (by decide) ?_
        refine lv_iand S.1 S.2.1 dX0_countWays_39 ?_
        obtain ⟨h5, hF⟩ := gd_of hF
        refine xl_16 S hW h5 dX0_countWays_40 ?_
        obtain ⟨u6, hu6, hF⟩ := bd_of hF
        refine xc_v (k := 1) (As := [.int ((xf xu3.2 6 (((a2 >>> (((2 : Int32) * xu3.1) &&& 31)) &&& (3 : Int32))).toNatClampNeg))]) (rest := []) (cC_Ch_addOne l D ad cA kk A aM aC aE X hu6) (xr_RX0 hW) S hW (gd_V m_899 m_900 m_901 m_31 m_902) (by decide +kernel) ⟨Nat.le_of_ble_eq_true rfl, Nat.le_of_ble_eq_true rfl⟩ rfl hl.1 rfl (Nat.le_of_ble_eq_true rfl) ⟨Nat.le_of_ble_eq_true rfl, Nat.le_of_ble_eq_true rfl⟩ dX0_countWays_41 (fun H locs hW => ?_)
        refine lv_iinc (v := (xu3.1 + (1 : Int32))) (lv' := [(3, .int ((xu3.1 + (1 : Int32)))), (0, .ref (ad 15)), (1, .int a1), (2, .int a2)]) S.1 S.2.1 dX0_countWays_44 hl (k := 3) rfl rfl (by decide) rfl (fun ls hl => ?_)
        refine lv_goto (tgt := 17) S.1 S.2.1 dX0_countWays_47 (by decide) ?_
        exact ihu3 ((xu3.1 + (1 : Int32)), u6) hF _ _ _ ⟨lv_sub hl [1, 2, 3, 0] rfl, hW⟩
def fC_Ch_cheapestPrint_L16 (σ : SC) (l1 : Int32) (l2 : Int32) (l3 : Int32) : Nat → Int32 → Int64 → Int32 → Option (Int32)
  | 0, _, _, _ => none
  | n + 1, x4, x5, x7 =>
    if l1 < x7 then
    some ((x4))
    else
    if (8 : Int32) < x7 then
    some ((x4))
    else
    Option.bind (fC_Ch_costOf σ x7 l1 l2 l3) (fun u1 =>
    Option.bind (if 0 ≤ (lg_cmp u1 x5) then
    some (x4, x5)
    else
    some (x7, u1)) (fun u2 =>
    fC_Ch_cheapestPrint_L16 σ l1 l2 l3 n u2.1 u2.2 ((x7 + (1 : Int32)))))
def fC_Ch_cheapestPrint (σ : SC) (a1 : Int32) (a2 : Int32) (a3 : Int32) : Option (Int32) :=
  Option.bind (fC_Ch_costOf σ ((0 : Int32)) a1 a2 a3) (fun u1 =>
  Option.bind (fC_Ch_cheapestPrint_L16 σ a1 a2 a3 1000 ((0 : Int32)) u1 ((1 : Int32))) (fun u2 =>
  some u2))
set_option maxRecDepth 100000 in
set_option maxHeartbeats 4000000 in
theorem cC_Ch_cheapestPrint (l : Launch) (D : va_G) (ad : Nat → Nat) (cA : Nat → ClassId) (kk : Nat → Nat) (A : Nat → Prop) (aM aC aE : Nat → Nat) (X : va_W) {σ : SC} {a1 : Int32} {a2 : Int32} {a3 : Int32} {o : Int32} (hF : fC_Ch_cheapestPrint σ a1 a2 a3 = some o) : Mi l yX0_cheapestPrint cX0_cheapestPrint 10 .int { frames := 1, cells := 0, slots := 0, locals := 28 } [.ref (ad 15), .int a1, .int a2, .int a3] (CP D ad cA kk A aM aC aE X σ) o (CP D ad cA kk A aM aC aE X σ) A := by
  refine Mi.of (own := RX0) rfl (by decide +kernel) (Nat.le_of_ble_eq_true rfl) ?_
  intro p e s m args below meth c ls S hr hlk hP hl
  have hW := CW.start hP
  have hl : lv_has ls 10 [(0, .ref (ad 15)), (1, .int a1), (2, .int a2), (3, .int a3)] := hl
  rw [fC_Ch_cheapestPrint] at hF
  refine lv_iconst (v := (0 : Int32)) S.1 S.2.1 dX0_cheapestPrint_0 (by decide) ?_
  refine lv_istore (lv' := [(4, .int ((0 : Int32))), (0, .ref (ad 15)), (1, .int a1), (2, .int a2), (3, .int a3)]) S.1 S.2.1 dX0_cheapestPrint_1 hl (by decide) rfl (fun ls hl => ?_)
  refine lv_aload_n S.1 S.2.1 dX0_cheapestPrint_3 rfl (lv_at hl 1 rfl) ?_
  refine lv_iconst (v := (0 : Int32)) S.1 S.2.1 dX0_cheapestPrint_4 (by decide) ?_
  refine lv_iload_n S.1 S.2.1 dX0_cheapestPrint_5 rfl (lv_at hl 2 rfl) ?_
  refine lv_iload_n S.1 S.2.1 dX0_cheapestPrint_6 rfl (lv_at hl 3 rfl) ?_
  refine lv_iload_n S.1 S.2.1 dX0_cheapestPrint_7 rfl (lv_at hl 4 rfl) ?_
  obtain ⟨u1, hu1, hF⟩ := bd_of hF
  refine xc_l (k := 4) (As := [.int ((0 : Int32)), .int a1, .int a2, .int a3]) (rest := []) (cC_Ch_costOf l D ad cA kk A aM aC aE X hu1) (xr_RX0 hW) S hW (gd_V m_936 m_937 m_938 m_31 m_939) (by decide +kernel) ⟨Nat.le_of_ble_eq_true rfl, Nat.le_of_ble_eq_true rfl⟩ rfl hl.1 rfl (Nat.le_of_ble_eq_true rfl) ⟨Nat.le_of_ble_eq_true rfl, Nat.le_of_ble_eq_true rfl⟩ dX0_cheapestPrint_8 (fun H locs hW => ?_)
  refine lv_lstore (lv' := [(5, .long u1), (4, .int ((0 : Int32))), (0, .ref (ad 15)), (1, .int a1), (2, .int a2), (3, .int a3)]) S.1 S.2.1 dX0_cheapestPrint_11 hl (by decide) rfl (fun ls hl => ?_)
  refine lv_iconst (v := (1 : Int32)) S.1 S.2.1 dX0_cheapestPrint_13 (by decide) ?_
  refine lv_istore (lv' := [(7, .int ((1 : Int32))), (5, .long u1), (4, .int ((0 : Int32))), (0, .ref (ad 15)), (1, .int a1), (2, .int a2), (3, .int a3)]) S.1 S.2.1 dX0_cheapestPrint_14 hl (by decide) rfl (fun ls hl => ?_)
  obtain ⟨u2, hX, hF⟩ := bd_of hF
  refine jn1 (fun H locs ls => lv_has ls 10 [(4, .int u2)] ∧ CW D ad cA kk A aM aC aE X σ s H locs) 62 [] (fun H locs ls hJ => ?_) (fun Ju2 => ?_)
  · obtain ⟨hl, hW⟩ := hJ
    refine lv_iload S.1 S.2.1 dX0_cheapestPrint_62 (lv_at hl 0 rfl) ?_
    obtain rfl := Option.some.inj hF
    exact xr_i S hr hlk hW rfl rfl dX0_cheapestPrint_64
  · refine lpW (fun (xu2 : Int32 × Int64 × Int32) H locs ls => lv_has ls 10 [(0, .ref (ad 15)), (1, .int a1), (2, .int a2), (3, .int a3), (4, .int xu2.1), (5, .long xu2.2.1), (7, .int xu2.2.2)] ∧ CW D ad cA kk A aM aC aE X σ s H locs) 16 (fun n xu2 => fC_Ch_cheapestPrint_L16 σ a1 a2 a3 n xu2.1 xu2.2.1 xu2.2.2) u2 (fun _ => rfl) (fun n xu2 ihu2 hF H locs ls hJ => ?_) 1000 ((0 : Int32), u1, (1 : Int32)) hX _ _ _ ⟨lv_sub hl [3, 4, 5, 6, 2, 1, 0] rfl, hW⟩
    obtain ⟨hl, hW⟩ := hJ
    have hF : fC_Ch_cheapestPrint_L16 σ a1 a2 a3 (n + 1) xu2.1 xu2.2.1 xu2.2.2 = some u2 := hF
    rw [fC_Ch_cheapestPrint_L16] at hF
    refine lv_iload S.1 S.2.1 dX0_cheapestPrint_16 (lv_at hl 6 rfl) ?_
    refine lv_iload_n S.1 S.2.1 dX0_cheapestPrint_18 rfl (lv_at hl 1 rfl) ?_
    refine lv_icmp_gt (tgt := 62) S.1 S.2.1 dX0_cheapestPrint_19 (by decide) (fun hc => ?_) (fun hc => ?_)
    · have hF := it_pos hc hF
      obtain rfl := Option.some.inj hF
      exact Ju2 _ _ _ ⟨lv_sub hl [4] rfl, hW⟩
    · have hF := it_neg hc hF
      refine lv_iload S.1 S.2.1 dX0_cheapestPrint_22 (lv_at hl 6 rfl) ?_
      refine lv_bipush (v := (8 : Int32)) S.1 S.2.1 dX0_cheapestPrint_24 (by decide) ?_
      refine lv_icmp_gt (tgt := 62) S.1 S.2.1 dX0_cheapestPrint_26 (by decide) (fun hc => ?_) (fun hc => ?_)
      · have hF := it_pos hc hF
        obtain rfl := Option.some.inj hF
        exact Ju2 _ _ _ ⟨lv_sub hl [4] rfl, hW⟩
      · have hF := it_neg hc hF
        refine lv_aload_n S.1 S.2.1 dX0_cheapestPrint_29 rfl (lv_at hl 0 rfl) ?_
        refine lv_iload S.1 S.2.1 dX0_cheapestPrint_30 (lv_at hl 6 rfl) ?_
        refine lv_iload_n S.1 S.2.1 dX0_cheapestPrint_32 rfl (lv_at hl 1 rfl) ?_
        refine lv_iload_n S.1 S.2.1 dX0_cheapestPrint_33 rfl (lv_at hl 2 rfl) ?_
        refine lv_iload_n S.1 S.2.1 dX0_cheapestPrint_34 rfl (lv_at hl 3 rfl) ?_
        obtain ⟨u4, hu4, hF⟩ := bd_of hF
        refine xc_l (k := 4) (As := [.int xu2.2.2, .int a1, .int a2, .int a3]) (rest := []) (cC_Ch_costOf l D ad cA kk A aM aC aE X hu4) (xr_RX0 hW) S hW (gd_V m_936 m_937 m_938 m_31 m_939) (by decide +kernel) ⟨Nat.le_of_ble_eq_true rfl, Nat.le_of_ble_eq_true rfl⟩ rfl hl.1 rfl (Nat.le_of_ble_eq_true rfl) ⟨Nat.le_of_ble_eq_true rfl, Nat.le_of_ble_eq_true rfl⟩ dX0_cheapestPrint_35 (fun H locs hW => ?_)
        refine lv_lstore (lv' := [(8, .long u4), (0, .ref (ad 15)), (1, .int a1), (2, .int a2), (3, .int a3), (4, .int xu2.1), (5, .long xu2.2.1), (7, .int xu2.2.2)]) S.1 S.2.1 dX0_cheapestPrint_38 hl (by decide) rfl (fun ls hl => ?_)
        refine lv_lload S.1 S.2.1 dX0_cheapestPrint_40 (lv_at hl 0 rfl) ?_
        refine lv_lload S.1 S.2.1 dX0_cheapestPrint_42 (lv_at hl 6 rfl) ?_
        refine W.lcmp S.1 S.2.1 dX0_cheapestPrint_44 ?_
        obtain ⟨u5, hX, hF⟩ := bd_of hF
        refine jn1 (fun H locs ls => lv_has ls 10 [(0, .ref (ad 15)), (1, .int a1), (2, .int a2), (3, .int a3), (4, .int u5.1), (5, .long u5.2), (7, .int xu2.2.2)] ∧ CW D ad cA kk A aM aC aE X σ s H locs) 56 [] (fun H locs ls hJ => ?_) (fun Ju5 => ?_)
        · obtain ⟨hl, hW⟩ := hJ
          refine lv_iinc (v := (xu2.2.2 + (1 : Int32))) (lv' := [(7, .int ((xu2.2.2 + (1 : Int32)))), (0, .ref (ad 15)), (1, .int a1), (2, .int a2), (3, .int a3), (4, .int u5.1), (5, .long u5.2)]) S.1 S.2.1 dX0_cheapestPrint_56 hl (k := 6) rfl rfl (by decide) rfl (fun ls hl => ?_)
          refine lv_goto (tgt := 16) S.1 S.2.1 dX0_cheapestPrint_59 (by decide) ?_
          exact ihu2 (u5.1, u5.2, (xu2.2.2 + (1 : Int32))) hF _ _ _ ⟨lv_sub hl [1, 2, 3, 4, 5, 6, 0] rfl, hW⟩
        · have hF := hX
          refine lv_if_ge (tgt := 56) S.1 S.2.1 dX0_cheapestPrint_45 (by decide) (fun hc => ?_) (fun hc => ?_)
          · have hF := it_pos hc hF
            obtain rfl := Option.some.inj hF
            exact Ju5 _ _ _ ⟨lv_sub hl [1, 2, 3, 4, 5, 6, 7] rfl, hW⟩
          · have hF := it_neg hc hF
            refine lv_lload S.1 S.2.1 dX0_cheapestPrint_48 (lv_at hl 0 rfl) ?_
            refine lv_lstore (lv' := [(5, .long u4), (8, .long u4), (0, .ref (ad 15)), (1, .int a1), (2, .int a2), (3, .int a3), (4, .int xu2.1), (7, .int xu2.2.2)]) S.1 S.2.1 dX0_cheapestPrint_50 hl (by decide) rfl (fun ls hl => ?_)
            refine lv_iload S.1 S.2.1 dX0_cheapestPrint_52 (lv_at hl 7 rfl) ?_
            refine lv_istore (lv' := [(4, .int xu2.2.2), (5, .long u4), (8, .long u4), (0, .ref (ad 15)), (1, .int a1), (2, .int a2), (3, .int a3), (7, .int xu2.2.2)]) S.1 S.2.1 dX0_cheapestPrint_54 hl (by decide) rfl (fun ls hl => ?_)
            obtain rfl := Option.some.inj hF
            exact Ju5 _ _ _ ⟨lv_sub hl [3, 4, 5, 6, 0, 1, 7] rfl, hW⟩
def fC_B_mark (σ : SC) (a1 : Int32) (a2 : Int32) (a3 : Int32) : Option (Int32 × SC) :=
  Option.bind (fC_Ju_setMark σ a1 a2 a3) (fun u1 =>
  if u1.1 = 0 ∨ u1.1 = 1 then some (u1.1, u1.2) else none)
set_option maxRecDepth 100000 in
set_option maxHeartbeats 4000000 in
theorem cC_B_mark (l : Launch) (D : va_G) (ad : Nat → Nat) (cA : Nat → ClassId) (kk : Nat → Nat) (A : Nat → Prop) (aM aC aE : Nat → Nat) (X : va_W) {σ : SC} {a1 : Int32} {a2 : Int32} {a3 : Int32} {o : Int32 × SC} (hF : fC_B_mark σ a1 a2 a3 = some o) : Mi l yX10_mark cX10_mark 4 .boolean { frames := 4, cells := 0, slots := 0, locals := 86 } [.ref (ad 0), .int a1, .int a2, .int a3] (CP D ad cA kk A aM aC aE X σ) o.1 (CP D ad cA kk A aM aC aE X (o.2)) A := by
  refine Mi.of (own := RX10) rfl (by decide +kernel) (Nat.le_of_ble_eq_true rfl) ?_
  intro p e s m args below meth c ls S hr hlk hP hl
  have hW := CW.start hP
  have hl : lv_has ls 4 [(0, .ref (ad 0)), (1, .int a1), (2, .int a2), (3, .int a3)] := hl
  rw [fC_B_mark] at hF
  refine lv_aload_n S.1 S.2.1 dX10_mark_0 rfl (lv_at hl 0 rfl) ?_
  refine xg_X10_51 S hW dX10_mark_1 ?_
  refine lv_iload_n S.1 S.2.1 dX10_mark_4 rfl (lv_at hl 1 rfl) ?_
  refine lv_iload_n S.1 S.2.1 dX10_mark_5 rfl (lv_at hl 2 rfl) ?_
  refine lv_iload_n S.1 S.2.1 dX10_mark_6 rfl (lv_at hl 3 rfl) ?_
  obtain ⟨u1, hu1, hF⟩ := bd_of hF
  refine xc_i (k := 3) (As := [.int a1, .int a2, .int a3]) (rest := []) (cC_Ju_setMark l D ad cA kk A aM aC aE X hu1) (xr_RX4 hW) S hW (gd_V m_948 m_949 m_950 m_35 m_951) (by decide +kernel) ⟨Nat.le_of_ble_eq_true rfl, Nat.le_of_ble_eq_true rfl⟩ rfl hl.1 rfl (Nat.le_of_ble_eq_true rfl) ⟨Nat.le_of_ble_eq_true rfl, Nat.le_of_ble_eq_true rfl⟩ dX10_mark_7 (fun H locs hW => ?_)
  obtain ⟨hb, hF⟩ := gt_of hF
  obtain rfl := Option.some.inj hF
  exact xr_i S hr hlk hW (bool_nar hb) rfl dX10_mark_10
def fC_B_kin (σ : SC) (a1 : Int32) (a2 : Int32) (a3 : Int32) : Option (Int32 × SC) :=
  Option.bind (fC_Ju_setKin σ a1 a2 a3) (fun u1 =>
  if u1.1 = 0 ∨ u1.1 = 1 then some (u1.1, u1.2) else none)
set_option maxRecDepth 100000 in
set_option maxHeartbeats 4000000 in
theorem cC_B_kin (l : Launch) (D : va_G) (ad : Nat → Nat) (cA : Nat → ClassId) (kk : Nat → Nat) (A : Nat → Prop) (aM aC aE : Nat → Nat) (X : va_W) {σ : SC} {a1 : Int32} {a2 : Int32} {a3 : Int32} {o : Int32 × SC} (hF : fC_B_kin σ a1 a2 a3 = some o) : Mi l yX10_kin cX10_kin 4 .boolean { frames := 4, cells := 0, slots := 0, locals := 86 } [.ref (ad 0), .int a1, .int a2, .int a3] (CP D ad cA kk A aM aC aE X σ) o.1 (CP D ad cA kk A aM aC aE X (o.2)) A := by
  refine Mi.of (own := RX10) rfl (by decide +kernel) (Nat.le_of_ble_eq_true rfl) ?_
  intro p e s m args below meth c ls S hr hlk hP hl
  have hW := CW.start hP
  have hl : lv_has ls 4 [(0, .ref (ad 0)), (1, .int a1), (2, .int a2), (3, .int a3)] := hl
  rw [fC_B_kin] at hF
  refine lv_aload_n S.1 S.2.1 dX10_kin_0 rfl (lv_at hl 0 rfl) ?_
  refine xg_X10_51 S hW dX10_kin_1 ?_
  refine lv_iload_n S.1 S.2.1 dX10_kin_4 rfl (lv_at hl 1 rfl) ?_
  refine lv_iload_n S.1 S.2.1 dX10_kin_5 rfl (lv_at hl 2 rfl) ?_
  refine lv_iload_n S.1 S.2.1 dX10_kin_6 rfl (lv_at hl 3 rfl) ?_
  obtain ⟨u1, hu1, hF⟩ := bd_of hF
  refine xc_i (k := 3) (As := [.int a1, .int a2, .int a3]) (rest := []) (cC_Ju_setKin l D ad cA kk A aM aC aE X hu1) (xr_RX4 hW) S hW (gd_V m_972 m_973 m_974 m_35 m_975) (by decide +kernel) ⟨Nat.le_of_ble_eq_true rfl, Nat.le_of_ble_eq_true rfl⟩ rfl hl.1 rfl (Nat.le_of_ble_eq_true rfl) ⟨Nat.le_of_ble_eq_true rfl, Nat.le_of_ble_eq_true rfl⟩ dX10_kin_7 (fun H locs hW => ?_)
  obtain ⟨hb, hF⟩ := gt_of hF
  obtain rfl := Option.some.inj hF
  exact xr_i S hr hlk hW (bool_nar hb) rfl dX10_kin_10
def fC_Ju_middleOf_L26 (σ : SC) (l2 : Int32) : Nat → Int32 → Int32 → Option ((Unit) ⊕ (Int32 × SC))
  | 0, _, _ => none
  | n + 1, x3, x4 =>
    if (10 : Int32) < x4 then
    some (Sum.inl (()))
    else
    if x4 < 0 ∨ 11 ≤ (x4).toNatClampNeg then none else
    if (x3 + (xf σ 9 (x4).toNatClampNeg)) ≤ ((l2 - (1 : Int32)) / (2 : Int32)) then
    fC_Ju_middleOf_L26 σ l2 n ((x3 + (xf σ 9 (x4).toNatClampNeg))) ((x4 + (1 : Int32)))
    else
    some (Sum.inr (x4, σ))
def fC_Ju_middleOf (σ : SC) (a1 : Int32) : Option (Int32 × SC) :=
  Option.bind (fC_Ju_isBook a1) (fun u1 =>
  if u1 = 0 then
  some ((-1 : Int32), σ)
  else
  Option.bind (fC_Ju_tallyMarks σ a1) (fun u2 =>
  if u2.1 = 0 then
  some ((-1 : Int32), u2.2)
  else
  Option.bind (fC_Ju_middleOf_L26 u2.2 u2.1 1000 ((0 : Int32)) ((0 : Int32))) (fun w6 => Sum.elim (fun u3 =>
  some ((-1 : Int32), u2.2)) (fun r => some r) w6)))
set_option maxRecDepth 100000 in
set_option maxHeartbeats 4000000 in
theorem cC_Ju_middleOf (l : Launch) (D : va_G) (ad : Nat → Nat) (cA : Nat → ClassId) (kk : Nat → Nat) (A : Nat → Prop) (aM aC aE : Nat → Nat) (X : va_W) {σ : SC} {a1 : Int32} {o : Int32 × SC} (hF : fC_Ju_middleOf σ a1 = some o) : Mi l yX4_middleOf cX4_middleOf 5 .int { frames := 2, cells := 0, slots := 0, locals := 48 } [.ref (ad 18), .int a1] (CP D ad cA kk A aM aC aE X σ) o.1 (CP D ad cA kk A aM aC aE X (o.2)) A := by
  refine Mi.of (own := RX4) rfl (by decide +kernel) (Nat.le_of_ble_eq_true rfl) ?_
  intro p e s m args below meth c ls S hr hlk hP hl
  have hW := CW.start hP
  have hl : lv_has ls 5 [(0, .ref (ad 18)), (1, .int a1)] := hl
  rw [fC_Ju_middleOf] at hF
  refine lv_iload_n S.1 S.2.1 dX4_middleOf_0 rfl (lv_at hl 1 rfl) ?_
  obtain ⟨u1, hu1, hF⟩ := bd_of hF
  refine kc_s (k := 1) (As := [.int a1]) (rest := []) (cC_Ju_isBook l hu1) (fun U hU hw => (hW.2.1.2.2.1).warm hw) (fun _ _ _ _ h => h.same) S (gd_S m_955 m_956 m_35 m_957) rfl rfl (by decide +kernel) ⟨Nat.le_of_ble_eq_true rfl, Nat.le_of_ble_eq_true rfl⟩ rfl hl.1 rfl (Nat.le_of_ble_eq_true rfl) ⟨Nat.le_of_ble_eq_true rfl, Nat.le_of_ble_eq_true rfl⟩ dX4_middleOf_1 ?_
  refine lv_if_ne (tgt := 9) S.1 S.2.1 dX4_middleOf_4 (by decide) (fun hc => ?_) (fun hc => ?_)
  · have hF := it_neg hc hF
    refine lv_aload_n S.1 S.2.1 dX4_middleOf_9 rfl (lv_at hl 0 rfl) ?_
    refine lv_iload_n S.1 S.2.1 dX4_middleOf_10 rfl (lv_at hl 1 rfl) ?_
    obtain ⟨u2, hu2, hF⟩ := bd_of hF
    refine xc_i (k := 1) (As := [.int a1]) (rest := []) (cC_Ju_tallyMarks l D ad cA kk A aM aC aE X hu2) (xr_RX4 hW) S hW (gd_V m_988 m_989 m_990 m_35 m_991) (by decide +kernel) ⟨Nat.le_of_ble_eq_true rfl, Nat.le_of_ble_eq_true rfl⟩ rfl hl.1 rfl (Nat.le_of_ble_eq_true rfl) ⟨Nat.le_of_ble_eq_true rfl, Nat.le_of_ble_eq_true rfl⟩ dX4_middleOf_11 (fun H locs hW => ?_)
    refine lv_istore_n (lv' := [(2, .int u2.1), (0, .ref (ad 18)), (1, .int a1)]) S.1 S.2.1 dX4_middleOf_14 rfl hl (by decide) rfl (fun ls hl => ?_)
    refine lv_iload_n S.1 S.2.1 dX4_middleOf_15 rfl (lv_at hl 0 rfl) ?_
    refine lv_if_ne (tgt := 21) S.1 S.2.1 dX4_middleOf_16 (by decide) (fun hc => ?_) (fun hc => ?_)
    · have hF := it_neg hc hF
      refine lv_iconst (v := (0 : Int32)) S.1 S.2.1 dX4_middleOf_21 (by decide) ?_
      refine lv_istore_n (lv' := [(3, .int ((0 : Int32))), (2, .int u2.1), (0, .ref (ad 18)), (1, .int a1)]) S.1 S.2.1 dX4_middleOf_22 rfl hl (by decide) rfl (fun ls hl => ?_)
      refine lv_iconst (v := (0 : Int32)) S.1 S.2.1 dX4_middleOf_23 (by decide) ?_
      refine lv_istore (lv' := [(4, .int ((0 : Int32))), (3, .int ((0 : Int32))), (2, .int u2.1), (0, .ref (ad 18)), (1, .int a1)]) S.1 S.2.1 dX4_middleOf_24 hl (by decide) rfl (fun ls hl => ?_)
      obtain ⟨w6, hX, hF⟩ := bd_of hF
      refine jn1 (fun H locs ls => ∃ u3, w6 = Sum.inl u3 ∧ lv_has ls 5 [] ∧ CW D ad cA kk A aM aC aE X u2.2 s H locs) 61 [] (fun H locs ls hJ => ?_) (fun Ju3 => ?_)
      · obtain ⟨u3, rfl, hl, hW⟩ := hJ
        rw [Sum.elim_inl] at hF
        refine lv_iconst (v := (-1 : Int32)) S.1 S.2.1 dX4_middleOf_61 (by decide) ?_
        obtain rfl := Option.some.inj hF
        exact xr_i S hr hlk hW rfl rfl dX4_middleOf_62
      · have hF0 := hF
        clear hF
        refine lpW (fun (xu3 : Int32 × Int32) H locs ls => lv_has ls 5 [(0, .ref (ad 18)), (2, .int u2.1), (3, .int xu3.1), (4, .int xu3.2)] ∧ CW D ad cA kk A aM aC aE X u2.2 s H locs) 26 (fun n xu3 => fC_Ju_middleOf_L26 u2.2 u2.1 n xu3.1 xu3.2) w6 (fun _ => rfl) (fun n xu3 ihu3 hF H locs ls hJ => ?_) 1000 ((0 : Int32), (0 : Int32)) hX _ _ _ ⟨lv_sub hl [3, 2, 1, 0] rfl, hW⟩
        obtain ⟨hl, hW⟩ := hJ
        have hF : fC_Ju_middleOf_L26 u2.2 u2.1 (n + 1) xu3.1 xu3.2 = some w6 := hF
        rw [fC_Ju_middleOf_L26] at hF
        refine lv_iload S.1 S.2.1 dX4_middleOf_26 (lv_at hl 3 rfl) ?_
        refine lv_bipush (v := (10 : Int32)) S.1 S.2.1 dX4_middleOf_28 (by decide) ?_
        refine lv_icmp_gt (tgt := 61) S.1 S.2.1 dX4_middleOf_30 (by decide) (fun hc => ?_) (fun hc => ?_)
        · have hF := it_pos hc hF
          obtain rfl := Option.some.inj hF
          exact Ju3 _ _ _ ⟨_, rfl, lv_sub hl [] rfl, hW⟩
        · have hF := it_neg hc hF
          refine lv_iload_n S.1 S.2.1 dX4_middleOf_33 rfl (lv_at hl 2 rfl) ?_
          refine lv_aload_n S.1 S.2.1 dX4_middleOf_34 rfl (lv_at hl 0 rfl) ?_
          refine xg_X4_25 S hW dX4_middleOf_35 ?_
          refine lv_iload S.1 S.2.1 dX4_middleOf_38 (lv_at hl 3 rfl) ?_
          obtain ⟨h5, hF⟩ := gd_of hF
          refine xl_21 S hW h5 dX4_middleOf_40 ?_
          refine lv_iadd S.1 S.2.1 dX4_middleOf_41 ?_
          refine lv_istore_n (lv' := [(3, .int ((xu3.1 + (xf u2.2 9 (xu3.2).toNatClampNeg)))), (0, .ref (ad 18)), (2, .int u2.1), (4, .int xu3.2)]) S.1 S.2.1 dX4_middleOf_42 rfl hl (by decide) rfl (fun ls hl => ?_)
          refine lv_iload_n S.1 S.2.1 dX4_middleOf_43 rfl (lv_at hl 0 rfl) ?_
          refine lv_iload_n S.1 S.2.1 dX4_middleOf_44 rfl (lv_at hl 2 rfl) ?_
          refine lv_iconst (v := (1 : Int32)) S.1 S.2.1 dX4_middleOf_45 (by decide) ?_
          refine lv_isub S.1 S.2.1 dX4_middleOf_46 ?_
          refine lv_iconst (v := (2 : Int32)) S.1 S.2.1 dX4_middleOf_47 (by decide) ?_
          refine lv_idiv S.1 S.2.1 dX4_middleOf_48 (by decide) ?_
          refine lv_icmp_le (tgt := 55) S.1 S.2.1 dX4_middleOf_49 (by decide) (fun hc => ?_) (fun hc => ?_)
          · have hF := it_pos hc hF
            refine lv_iinc (v := (xu3.2 + (1 : Int32))) (lv' := [(4, .int ((xu3.2 + (1 : Int32)))), (3, .int ((xu3.1 + (xf u2.2 9 (xu3.2).toNatClampNeg)))), (0, .ref (ad 18)), (2, .int u2.1)]) S.1 S.2.1 dX4_middleOf_55 hl (k := 3) rfl rfl (by decide) rfl (fun ls hl => ?_)
            refine lv_goto (tgt := 26) S.1 S.2.1 dX4_middleOf_58 (by decide) ?_
            exact ihu3 ((xu3.1 + (xf u2.2 9 (xu3.2).toNatClampNeg)), (xu3.2 + (1 : Int32))) hF _ _ _ ⟨lv_sub hl [2, 3, 1, 0] rfl, hW⟩
          · have hF := it_neg hc hF
            refine lv_iload S.1 S.2.1 dX4_middleOf_52 (lv_at hl 3 rfl) ?_
            obtain rfl := Option.some.inj hF
            have hF0 : some (xu3.2, u2.2) = some o := hF0
            obtain rfl := Option.some.inj hF0
            exact xr_i S hr hlk hW rfl rfl dX4_middleOf_54
    · have hF := it_pos hc hF
      refine lv_iconst (v := (-1 : Int32)) S.1 S.2.1 dX4_middleOf_19 (by decide) ?_
      obtain rfl := Option.some.inj hF
      exact xr_i S hr hlk hW rfl rfl dX4_middleOf_20
  · have hF := it_pos hc hF
    refine lv_iconst (v := (-1 : Int32)) S.1 S.2.1 dX4_middleOf_7 (by decide) ?_
    obtain rfl := Option.some.inj hF
    exact xr_i S hr hlk hW rfl rfl dX4_middleOf_8
