def fC_Cl_setLag (σ : SC) (a1 : Int32) (a2 : Int32) : Option (Int32 × SC) :=
  Option.bind (fC_Cl_isHouse a1) (fun u1 =>
  if u1 = 0 then
  some ((0 : Int32), σ)
  else
  Option.bind (fC_isWithin a2 ((0 : Int32)) ((20 : Int32))) (fun u2 =>
  if u2 = 0 then
  some ((0 : Int32), σ)
  else
  if a1 < 0 ∨ 10 ≤ (a1).toNatClampNeg then none else
  some ((1 : Int32), yf σ 4 (a1).toNatClampNeg a2)))
set_option maxRecDepth 100000 in
set_option maxHeartbeats 4000000 in
theorem cC_Cl_setLag (l : Launch) (D : va_G) (ad : Nat → Nat) (cA : Nat → ClassId) (kk : Nat → Nat) (A : Nat → Prop) (aM aC aE : Nat → Nat) (X : va_W) {σ : SC} {a1 : Int32} {a2 : Int32} {o : Int32 × SC} (hF : fC_Cl_setLag σ a1 a2 = some o) : Mi l yX2_setLag cX2_setLag 3 .boolean { frames := 2, cells := 0, slots := 0, locals := 42 } [.ref (ad 8), .int a1, .int a2] (CP D ad cA kk A aM aC aE X σ) o.1 (CP D ad cA kk A aM aC aE X (o.2)) A := by
  refine Mi.of (own := RX2) rfl (by decide +kernel) (Nat.le_of_ble_eq_true rfl) ?_
  intro p e s m args below meth c ls S hr hlk hP hl
  have hW := CW.start hP
  have hl : lv_has ls 3 [(0, .ref (ad 8)), (1, .int a1), (2, .int a2)] := hl
  rw [fC_Cl_setLag] at hF
  refine lv_iload_n S.1 S.2.1 dX2_setLag_0 rfl (lv_at hl 1 rfl) ?_
  obtain ⟨u1, hu1, hF⟩ := bd_of hF
  refine kc_s (k := 1) (As := [.int a1]) (rest := []) (cC_Cl_isHouse l hu1) (fun U hU hw => (hW.2.1.2.2.1).warm hw) (fun _ _ _ _ h => h.same) S (gd_S m_495 m_496 m_27 m_497) rfl rfl (by decide +kernel) ⟨Nat.le_of_ble_eq_true rfl, Nat.le_of_ble_eq_true rfl⟩ rfl hl.1 rfl (Nat.le_of_ble_eq_true rfl) ⟨Nat.le_of_ble_eq_true rfl, Nat.le_of_ble_eq_true rfl⟩ dX2_setLag_1 ?_
  refine lv_if_eq (tgt := 17) S.1 S.2.1 dX2_setLag_4 (by decide) (fun hc => ?_) (fun hc => ?_)
  · have hF := it_pos hc hF
    refine lv_iconst (v := (0 : Int32)) S.1 S.2.1 dX2_setLag_17 (by decide) ?_
    obtain rfl := Option.some.inj hF
    exact xr_i S hr hlk hW rfl rfl dX2_setLag_18
  · have hF := it_neg hc hF
    refine lv_iload_n S.1 S.2.1 dX2_setLag_7 rfl (lv_at hl 2 rfl) ?_
    refine lv_iconst (v := (0 : Int32)) S.1 S.2.1 dX2_setLag_8 (by decide) ?_
    refine lv_bipush (v := (20 : Int32)) S.1 S.2.1 dX2_setLag_9 (by decide) ?_
    obtain ⟨u2, hu2, hF⟩ := bd_of hF
    refine sc_iN (k := 3) (As := [.int a2, .int ((0 : Int32)), .int ((20 : Int32))]) (rest := []) (cC_isWithin l hu2) S hW.2.1.2.2.1 nw_23 m_242 m_2 m_243 rfl rfl (by decide +kernel) ⟨Nat.le_of_ble_eq_true rfl, Nat.le_of_ble_eq_true rfl⟩ rfl hl.1 rfl (Nat.le_of_ble_eq_true rfl) ⟨Nat.le_of_ble_eq_true rfl, Nat.le_of_ble_eq_true rfl⟩ dX2_setLag_11 ?_
    refine lv_if_ne (tgt := 19) S.1 S.2.1 dX2_setLag_14 (by decide) (fun hc => ?_) (fun hc => ?_)
    · have hF := it_neg hc hF
      refine lv_aload_n S.1 S.2.1 dX2_setLag_19 rfl (lv_at hl 0 rfl) ?_
      refine xg_X2_15 S hW dX2_setLag_20 ?_
      refine lv_iload_n S.1 S.2.1 dX2_setLag_23 rfl (lv_at hl 1 rfl) ?_
      refine lv_iload_n S.1 S.2.1 dX2_setLag_24 rfl (lv_at hl 2 rfl) ?_
      obtain ⟨h3, hF⟩ := gd_of hF
      refine xs_9 S hW h3 dX2_setLag_25 (fun H locs hW => ?_)
      refine lv_iconst (v := (1 : Int32)) S.1 S.2.1 dX2_setLag_26 (by decide) ?_
      obtain rfl := Option.some.inj hF
      exact xr_i S hr hlk hW rfl rfl dX2_setLag_27
    · have hF := it_pos hc hF
      refine lv_iconst (v := (0 : Int32)) S.1 S.2.1 dX2_setLag_17 (by decide) ?_
      obtain rfl := Option.some.inj hF
      exact xr_i S hr hlk hW rfl rfl dX2_setLag_18
def fC_Cl_inForceNow (σ : SC) (a1 : Int32) : Option (Int32) :=
  Option.bind (fC_Rb_inForce σ a1 ((xz σ 6))) (fun u1 =>
  some u1)
set_option maxRecDepth 100000 in
set_option maxHeartbeats 4000000 in
theorem cC_Cl_inForceNow (l : Launch) (D : va_G) (ad : Nat → Nat) (cA : Nat → ClassId) (kk : Nat → Nat) (A : Nat → Prop) (aM aC aE : Nat → Nat) (X : va_W) {σ : SC} {a1 : Int32} {o : Int32} (hF : fC_Cl_inForceNow σ a1 = some o) : Mi l yX2_inForceNow cX2_inForceNow 2 .int { frames := 2, cells := 0, slots := 0, locals := 47 } [.ref (ad 8), .int a1] (CP D ad cA kk A aM aC aE X σ) o (CP D ad cA kk A aM aC aE X σ) A := by
  refine Mi.of (own := RX2) rfl (by decide +kernel) (Nat.le_of_ble_eq_true rfl) ?_
  intro p e s m args below meth c ls S hr hlk hP hl
  have hW := CW.start hP
  have hl : lv_has ls 2 [(0, .ref (ad 8)), (1, .int a1)] := hl
  rw [fC_Cl_inForceNow] at hF
  refine lv_aload_n S.1 S.2.1 dX2_inForceNow_0 rfl (lv_at hl 0 rfl) ?_
  refine xg_X2_9 S hW dX2_inForceNow_1 ?_
  refine lv_iload_n S.1 S.2.1 dX2_inForceNow_4 rfl (lv_at hl 1 rfl) ?_
  refine lv_aload_n S.1 S.2.1 dX2_inForceNow_5 rfl (lv_at hl 0 rfl) ?_
  refine xg_X2_57 S hW dX2_inForceNow_6 ?_
  obtain ⟨u1, hu1, hF⟩ := bd_of hF
  refine xc_i (k := 2) (As := [.int a1, .int ((xz σ 6))]) (rest := []) (cC_Rb_inForce l D ad cA kk A aM aC aE X hu1) (xr_RX7 hW) S hW (gd_V m_524 m_475 m_476 m_19 m_477) (by decide +kernel) ⟨Nat.le_of_ble_eq_true rfl, Nat.le_of_ble_eq_true rfl⟩ rfl hl.1 rfl (Nat.le_of_ble_eq_true rfl) ⟨Nat.le_of_ble_eq_true rfl, Nat.le_of_ble_eq_true rfl⟩ dX2_inForceNow_9 (fun H locs hW => ?_)
  obtain rfl := Option.some.inj hF
  exact xr_i S hr hlk hW rfl rfl dX2_inForceNow_12
def fC_Le_roomLeft (σ : SC) : Option (Int32) :=
  some (((900 : Int32) - (nI (xn σ 2))))
set_option maxRecDepth 100000 in
set_option maxHeartbeats 4000000 in
theorem cC_Le_roomLeft (l : Launch) (D : va_G) (ad : Nat → Nat) (cA : Nat → ClassId) (kk : Nat → Nat) (A : Nat → Prop) (aM aC aE : Nat → Nat) (X : va_W) {σ : SC} {o : Int32} (hF : fC_Le_roomLeft σ = some o) : Mi l yX5_roomLeft cX5_roomLeft 1 .int { frames := 1, cells := 0, slots := 0, locals := 20 } [.ref (ad 13)] (CP D ad cA kk A aM aC aE X σ) o (CP D ad cA kk A aM aC aE X σ) A := by
  refine Mi.of (own := RX5) rfl (by decide +kernel) (Nat.le_of_ble_eq_true rfl) ?_
  intro p e s m args below meth c ls S hr hlk hP hl
  have hW := CW.start hP
  have hl : lv_has ls 1 [(0, .ref (ad 13))] := hl
  rw [fC_Le_roomLeft] at hF
  refine lv_sipush (v := (900 : Int32)) S.1 S.2.1 dX5_roomLeft_0 (by decide) ?_
  refine lv_aload_n S.1 S.2.1 dX5_roomLeft_3 rfl (lv_at hl 0 rfl) ?_
  refine xg_X5_10 S hW dX5_roomLeft_4 ?_
  refine xsz_2 S hW (gd_V m_529 m_517 m_518 m_72 m_519) ⟨Nat.le_of_ble_eq_true rfl, Nat.le_of_ble_eq_true rfl⟩ hl.1 (Nat.le_of_ble_eq_true rfl) ⟨Nat.le_of_ble_eq_true rfl, Nat.le_of_ble_eq_true rfl⟩ dX5_roomLeft_7 ?_
  refine lv_isub S.1 S.2.1 dX5_roomLeft_10 ?_
  obtain rfl := Option.some.inj hF
  exact xr_i S hr hlk hW rfl rfl dX5_roomLeft_11
def fC_Cl_findMember (σ : SC) (a1 : Int32) : Option (Option Nat) :=
  Option.bind (fC_isWithin a1 ((0 : Int32)) (((nI (xn σ 0)) - (1 : Int32)))) (fun u1 =>
  if u1 = 0 then
  some none
  else
  if a1 < 0 ∨ xn σ 0 ≤ (a1).toNatClampNeg then none else
  some (some ((a1).toNatClampNeg)))
set_option maxRecDepth 100000 in
set_option maxHeartbeats 4000000 in
theorem cC_Cl_findMember (l : Launch) (D : va_G) (ad : Nat → Nat) (cA : Nat → ClassId) (kk : Nat → Nat) (A : Nat → Prop) (aM aC aE : Nat → Nat) (X : va_W) {σ : SC} {a1 : Int32} {o : Option Nat} (hF : fC_Cl_findMember σ a1 = some o) : Mo l yX2_findMember cX2_findMember 2 (.object "BookClub$Member") { frames := 3, cells := 0, slots := 0, locals := 64 } [.ref (ad 8), .int a1] (CP D ad cA kk A aM aC aE X σ) (Option.map aM o) (CP D ad cA kk A aM aC aE X σ) A := by
  refine Mo.of (own := RX2) rfl (by decide +kernel) (Nat.le_of_ble_eq_true rfl) ?_
  intro p e s m args below meth c ls S hr hlk hP hl
  have hW := CW.start hP
  have hl : lv_has ls 2 [(0, .ref (ad 8)), (1, .int a1)] := hl
  rw [fC_Cl_findMember] at hF
  refine lv_iload_n S.1 S.2.1 dX2_findMember_0 rfl (lv_at hl 1 rfl) ?_
  refine lv_iconst (v := (0 : Int32)) S.1 S.2.1 dX2_findMember_1 (by decide) ?_
  refine lv_aload_n S.1 S.2.1 dX2_findMember_2 rfl (lv_at hl 0 rfl) ?_
  refine xg_X2_32 S hW dX2_findMember_3 ?_
  refine xsz_0 S hW (gd_V m_516 m_517 m_518 m_72 m_519) ⟨Nat.le_of_ble_eq_true rfl, Nat.le_of_ble_eq_true rfl⟩ hl.1 (Nat.le_of_ble_eq_true rfl) ⟨Nat.le_of_ble_eq_true rfl, Nat.le_of_ble_eq_true rfl⟩ dX2_findMember_6 ?_
  refine lv_iconst (v := (1 : Int32)) S.1 S.2.1 dX2_findMember_9 (by decide) ?_
  refine lv_isub S.1 S.2.1 dX2_findMember_10 ?_
  obtain ⟨u1, hu1, hF⟩ := bd_of hF
  refine sc_iN (k := 3) (As := [.int a1, .int ((0 : Int32)), .int (((nI (xn σ 0)) - (1 : Int32)))]) (rest := []) (cC_isWithin l hu1) S hW.2.1.2.2.1 nw_23 m_242 m_2 m_243 rfl rfl (by decide +kernel) ⟨Nat.le_of_ble_eq_true rfl, Nat.le_of_ble_eq_true rfl⟩ rfl hl.1 rfl (Nat.le_of_ble_eq_true rfl) ⟨Nat.le_of_ble_eq_true rfl, Nat.le_of_ble_eq_true rfl⟩ dX2_findMember_11 ?_
  refine lv_if_eq (tgt := 31) S.1 S.2.1 dX2_findMember_14 (by decide) (fun hc => ?_) (fun hc => ?_)
  · have hF := it_pos hc hF
    refine lv_null S.1 S.2.1 dX2_findMember_31 ?_
    obtain rfl := Option.some.inj hF
    exact xr_o (v := none) S hr (Or.inl ⟨_, rfl⟩) hlk hW rfl dX2_findMember_32
  · have hF := it_neg hc hF
    refine lv_aload_n S.1 S.2.1 dX2_findMember_17 rfl (lv_at hl 0 rfl) ?_
    refine xg_X2_32 S hW dX2_findMember_18 ?_
    refine lv_iload_n S.1 S.2.1 dX2_findMember_21 rfl (lv_at hl 1 rfl) ?_
    obtain ⟨h2, hF⟩ := gd_of hF
    refine xgt_0 h2 S hW (gd_V m_579 m_580 m_581 m_72 m_582) ⟨Nat.le_of_ble_eq_true rfl, Nat.le_of_ble_eq_true rfl⟩ hl.1 (Nat.le_of_ble_eq_true rfl) ⟨Nat.le_of_ble_eq_true rfl, Nat.le_of_ble_eq_true rfl⟩ dX2_findMember_22 ?_
    refine xcast_M S hW (Nat.lt_of_not_le (fun q => h2 (Or.inr q))) m_510 dX2_findMember_25 ?_
    refine lv_goto (tgt := 32) S.1 S.2.1 dX2_findMember_28 (by decide) ?_
    obtain rfl := Option.some.inj hF
    exact xr_o (v := some (aM ((a1).toNatClampNeg))) S hr (Or.inl ⟨_, rfl⟩) hlk hW rfl dX2_findMember_32
def fC_Cl_rehouse (σ : SC) (a1 : Option Nat) (a2 : Int32) : Option (Int32 × SC) :=
  onull a1
  (some ((0 : Int32), σ))
  (fun ia1 =>
  if xn σ 0 ≤ ia1 then none else
  if (xm σ 3 ia1) = (2 : Int32) then
  some ((0 : Int32), σ)
  else
  Option.bind (fC_Cl_isHouse a2) (fun u2 =>
  if u2 = 0 then
  some ((0 : Int32), σ)
  else
  some ((1 : Int32), ym σ 2 ia1 a2)))
set_option maxRecDepth 100000 in
set_option maxHeartbeats 4000000 in
theorem cC_Cl_rehouse (l : Launch) (D : va_G) (ad : Nat → Nat) (cA : Nat → ClassId) (kk : Nat → Nat) (A : Nat → Prop) (aM aC aE : Nat → Nat) (X : va_W) {σ : SC} {a1 : Option Nat} {a2 : Int32} {o : Int32 × SC} (hF : fC_Cl_rehouse σ a1 a2 = some o) : Mi l yX2_rehouse cX2_rehouse 3 .boolean { frames := 2, cells := 0, slots := 0, locals := 42 } [.ref (ad 8), va_rf (a1.map aM), .int a2] (CP D ad cA kk A aM aC aE X σ) o.1 (CP D ad cA kk A aM aC aE X (o.2)) A := by
  rw [fC_Cl_rehouse] at hF
  rcases on_of hF with ⟨he, hF⟩ | ⟨ia1, he, hF⟩
  · subst he
    refine Mi.of (own := RX2) rfl (by decide +kernel) (Nat.le_of_ble_eq_true rfl) ?_
    intro p e s m args below meth c ls S hr hlk hP hl
    have hW := CW.start hP
    have hl : lv_has ls 3 [(0, .ref (ad 8)), (1, .null), (2, .int a2)] := hl
    refine lv_aload_nN S.1 S.2.1 dX2_rehouse_0 rfl (lv_at hl 1 rfl) ?_
    refine lv_ifnullN (tgt := 19) S.1 S.2.1 dX2_rehouse_1 (by decide) ?_
    refine lv_iconst (v := (0 : Int32)) S.1 S.2.1 dX2_rehouse_19 (by decide) ?_
    obtain rfl := Option.some.inj hF
    exact xr_i S hr hlk hW rfl rfl dX2_rehouse_20
  · subst he
    refine Mi.of (own := RX2) rfl (by decide +kernel) (Nat.le_of_ble_eq_true rfl) ?_
    intro p e s m args below meth c ls S hr hlk hP hl
    have hW := CW.start hP
    have hl : lv_has ls 3 [(0, .ref (ad 8)), (1, .ref (aM ia1)), (2, .int a2)] := hl
    refine lv_aload_n S.1 S.2.1 dX2_rehouse_0 rfl (lv_at hl 1 rfl) ?_
    refine lv_ifnull S.1 S.2.1 dX2_rehouse_1 ?_
    refine lv_aload_n S.1 S.2.1 dX2_rehouse_4 rfl (lv_at hl 1 rfl) ?_
    obtain ⟨h1, hF⟩ := gd_of hF
    refine xg_X2_75 S hW (Nat.lt_of_not_le h1) dX2_rehouse_5 ?_
    refine lv_iconst (v := (2 : Int32)) S.1 S.2.1 dX2_rehouse_8 (by decide) ?_
    refine lv_icmp_eq (tgt := 19) S.1 S.2.1 dX2_rehouse_9 (by decide) (fun hc => ?_) (fun hc => ?_)
    · have hF := it_pos hc hF
      refine lv_iconst (v := (0 : Int32)) S.1 S.2.1 dX2_rehouse_19 (by decide) ?_
      obtain rfl := Option.some.inj hF
      exact xr_i S hr hlk hW rfl rfl dX2_rehouse_20
    · have hF := it_neg hc hF
      refine lv_iload_n S.1 S.2.1 dX2_rehouse_12 rfl (lv_at hl 2 rfl) ?_
      obtain ⟨u2, hu2, hF⟩ := bd_of hF
      refine kc_s (k := 1) (As := [.int a2]) (rest := []) (cC_Cl_isHouse l hu2) (fun U hU hw => (hW.2.1.2.2.1).warm hw) (fun _ _ _ _ h => h.same) S (gd_S m_495 m_496 m_27 m_497) rfl rfl (by decide +kernel) ⟨Nat.le_of_ble_eq_true rfl, Nat.le_of_ble_eq_true rfl⟩ rfl hl.1 rfl (Nat.le_of_ble_eq_true rfl) ⟨Nat.le_of_ble_eq_true rfl, Nat.le_of_ble_eq_true rfl⟩ dX2_rehouse_13 ?_
      refine lv_if_ne (tgt := 21) S.1 S.2.1 dX2_rehouse_16 (by decide) (fun hc => ?_) (fun hc => ?_)
      · have hF := it_neg hc hF
        refine lv_aload_n S.1 S.2.1 dX2_rehouse_21 rfl (lv_at hl 1 rfl) ?_
        refine lv_iload_n S.1 S.2.1 dX2_rehouse_22 rfl (lv_at hl 2 rfl) ?_
        refine xp_X2_104 S hW (Nat.lt_of_not_le h1) dX2_rehouse_23 (fun H locs hW => ?_)
        refine lv_iconst (v := (1 : Int32)) S.1 S.2.1 dX2_rehouse_26 (by decide) ?_
        obtain rfl := Option.some.inj hF
        exact xr_i S hr hlk hW rfl rfl dX2_rehouse_27
      · have hF := it_pos hc hF
        refine lv_iconst (v := (0 : Int32)) S.1 S.2.1 dX2_rehouse_19 (by decide) ?_
        obtain rfl := Option.some.inj hF
        exact xr_i S hr hlk hW rfl rfl dX2_rehouse_20
def fC_Me_owesMoreThan (σ : SC) (a0 : Nat) (a1 : Int32) : Option (Int32) :=
  if xn σ 0 ≤ a0 then none else
  if 0 ≤ (lg_cmp (xb σ a0) ((-a1)).toInt64) then
  some ((0 : Int32))
  else
  some ((1 : Int32))
set_option maxRecDepth 100000 in
set_option maxHeartbeats 4000000 in
theorem cC_Me_owesMoreThan (l : Launch) (D : va_G) (ad : Nat → Nat) (cA : Nat → ClassId) (kk : Nat → Nat) (A : Nat → Prop) (aM aC aE : Nat → Nat) (X : va_W) {σ : SC} {a0 : Nat} {a1 : Int32} {o : Int32} (hF : fC_Me_owesMoreThan σ a0 a1 = some o) : Mi l yX6_owesMoreThan cX6_owesMoreThan 2 .boolean { frames := 0, cells := 0, slots := 0, locals := 0 } [.ref (aM a0), .int a1] (CP D ad cA kk A aM aC aE X σ) o (CP D ad cA kk A aM aC aE X σ) A := by
  refine Mi.of (own := RX6) rfl (by decide +kernel) (Nat.le_of_ble_eq_true rfl) ?_
  intro p e s m args below meth c ls S hr hlk hP hl
  have hW := CW.start hP
  have hl : lv_has ls 2 [(0, .ref (aM a0)), (1, .int a1)] := hl
  rw [fC_Me_owesMoreThan] at hF
  refine lv_aload_n S.1 S.2.1 dX6_owesMoreThan_0 rfl (lv_at hl 0 rfl) ?_
  obtain ⟨h1, hF⟩ := gd_of hF
  refine xg_X6_37 S hW (Nat.lt_of_not_le h1) dX6_owesMoreThan_1 ?_
  refine lv_iload_n S.1 S.2.1 dX6_owesMoreThan_4 rfl (lv_at hl 1 rfl) ?_
  refine lv_ineg S.1 S.2.1 dX6_owesMoreThan_5 ?_
  refine lv_i2l (v := ((-a1)).toInt64) S.1 S.2.1 dX6_owesMoreThan_6 rfl ?_
  refine W.lcmp S.1 S.2.1 dX6_owesMoreThan_7 ?_
  refine lv_if_ge (tgt := 15) S.1 S.2.1 dX6_owesMoreThan_8 (by decide) (fun hc => ?_) (fun hc => ?_)
  · have hF := it_pos hc hF
    refine lv_iconst (v := (0 : Int32)) S.1 S.2.1 dX6_owesMoreThan_15 (by decide) ?_
    obtain rfl := Option.some.inj hF
    exact xr_i S hr hlk hW rfl rfl dX6_owesMoreThan_16
  · have hF := it_neg hc hF
    refine lv_iconst (v := (1 : Int32)) S.1 S.2.1 dX6_owesMoreThan_11 (by decide) ?_
    refine lv_goto (tgt := 16) S.1 S.2.1 dX6_owesMoreThan_12 (by decide) ?_
    obtain rfl := Option.some.inj hF
    exact xr_i S hr hlk hW rfl rfl dX6_owesMoreThan_16
def fC_Me_owesNoLonger (σ : SC) (a0 : Nat) : Option (SC) :=
  if xn σ 0 ≤ a0 then none else
  if (xm (ym σ 5 a0 ((0 : Int32))) 3 a0) = (1 : Int32) then
  some (ym (ym σ 5 a0 ((0 : Int32))) 3 a0 ((0 : Int32)))
  else
  some (ym σ 5 a0 ((0 : Int32)))
set_option maxRecDepth 100000 in
set_option maxHeartbeats 4000000 in
theorem cC_Me_owesNoLonger (l : Launch) (D : va_G) (ad : Nat → Nat) (cA : Nat → ClassId) (kk : Nat → Nat) (A : Nat → Prop) (aM aC aE : Nat → Nat) (X : va_W) {σ : SC} {a0 : Nat} {o : SC} (hF : fC_Me_owesNoLonger σ a0 = some o) : Mv l yX6_owesNoLonger cX6_owesNoLonger 1 { frames := 0, cells := 0, slots := 0, locals := 0 } [.ref (aM a0)] (CP D ad cA kk A aM aC aE X σ) (CP D ad cA kk A aM aC aE X o) A := by
  refine Mv.of (own := RX6) rfl (by decide +kernel) (Nat.le_of_ble_eq_true rfl) ?_
  intro p e s m args below meth c ls S hr hlk hP hl _
  have hW := CW.start hP
  have hl : lv_has ls 1 [(0, .ref (aM a0))] := hl
  rw [fC_Me_owesNoLonger] at hF
  refine lv_aload_n S.1 S.2.1 dX6_owesNoLonger_0 rfl (lv_at hl 0 rfl) ?_
  refine lv_iconst (v := (0 : Int32)) S.1 S.2.1 dX6_owesNoLonger_1 (by decide) ?_
  obtain ⟨h1, hF⟩ := gd_of hF
  refine xp_X6_41 S hW (Nat.lt_of_not_le h1) dX6_owesNoLonger_2 (fun H locs hW => ?_)
  refine lv_aload_n S.1 S.2.1 dX6_owesNoLonger_5 rfl (lv_at hl 0 rfl) ?_
  refine xg_X6_21 S hW (Nat.lt_of_not_le h1) dX6_owesNoLonger_6 ?_
  refine lv_iconst (v := (1 : Int32)) S.1 S.2.1 dX6_owesNoLonger_9 (by decide) ?_
  refine lv_icmp_ne (tgt := 18) S.1 S.2.1 dX6_owesNoLonger_10 (by decide) (fun hc => ?_) (fun hc => ?_)
  · have hF := it_neg hc hF
    obtain rfl := Option.some.inj hF
    exact xr_v S hr hlk hW dX6_owesNoLonger_18
  · have hF := it_pos hc hF
    refine lv_aload_n S.1 S.2.1 dX6_owesNoLonger_13 rfl (lv_at hl 0 rfl) ?_
    refine lv_iconst (v := (0 : Int32)) S.1 S.2.1 dX6_owesNoLonger_14 (by decide) ?_
    refine xp_X6_21 S hW (Nat.lt_of_not_le h1) dX6_owesNoLonger_15 (fun H locs hW => ?_)
    obtain rfl := Option.some.inj hF
    exact xr_v S hr hlk hW dX6_owesNoLonger_18
def fC_Co_tell (σ : SC) (a0 : Nat) (a1 : Int32) (a2 : Int32) : Option (Int32 × SC) :=
  Option.bind (fC_isWithin a1 ((0 : Int32)) ((5000 : Int32))) (fun u1 =>
  if u1 = 0 then
  some ((-1 : Int32), σ)
  else
  Option.bind (fC_isWithin a2 ((0 : Int32)) ((1000 : Int32))) (fun u2 =>
  if u2 = 0 then
  some ((-1 : Int32), σ)
  else
  if xn σ 1 ≤ a0 then none else
  if ((xc σ 1 a0) + a2) ≤ (5000 : Int32) then
  some ((xc (yc (yc (yc σ 0 a0 a1) 1 a0 (((xc (yc σ 0 a0 a1) 1 a0) + a2))) 2 a0 (((xc (yc (yc σ 0 a0 a1) 1 a0 (((xc (yc σ 0 a0 a1) 1 a0) + a2))) 2 a0) + a2))) 2 a0), yc (yc (yc σ 0 a0 a1) 1 a0 (((xc (yc σ 0 a0 a1) 1 a0) + a2))) 2 a0 (((xc (yc (yc σ 0 a0 a1) 1 a0 (((xc (yc σ 0 a0 a1) 1 a0) + a2))) 2 a0) + a2)))
  else
  some ((-1 : Int32), σ)))
set_option maxRecDepth 100000 in
set_option maxHeartbeats 4000000 in
theorem cC_Co_tell (l : Launch) (D : va_G) (ad : Nat → Nat) (cA : Nat → ClassId) (kk : Nat → Nat) (A : Nat → Prop) (aM aC aE : Nat → Nat) (X : va_W) {σ : SC} {a0 : Nat} {a1 : Int32} {a2 : Int32} {o : Int32 × SC} (hF : fC_Co_tell σ a0 a1 a2 = some o) : Mi l yX1_tell cX1_tell 3 .int { frames := 1, cells := 0, slots := 0, locals := 22 } [.ref (aC a0), .int a1, .int a2] (CP D ad cA kk A aM aC aE X σ) o.1 (CP D ad cA kk A aM aC aE X (o.2)) A := by
  refine Mi.of (own := RX1) rfl (by decide +kernel) (Nat.le_of_ble_eq_true rfl) ?_
  intro p e s m args below meth c ls S hr hlk hP hl
  have hW := CW.start hP
  have hl : lv_has ls 3 [(0, .ref (aC a0)), (1, .int a1), (2, .int a2)] := hl
  rw [fC_Co_tell] at hF
  refine lv_iload_n S.1 S.2.1 dX1_tell_0 rfl (lv_at hl 1 rfl) ?_
  refine lv_iconst (v := (0 : Int32)) S.1 S.2.1 dX1_tell_1 (by decide) ?_
  refine lv_sipush (v := (5000 : Int32)) S.1 S.2.1 dX1_tell_2 (by decide) ?_
  obtain ⟨u1, hu1, hF⟩ := bd_of hF
  refine sc_iN (k := 3) (As := [.int a1, .int ((0 : Int32)), .int ((5000 : Int32))]) (rest := []) (cC_isWithin l hu1) S hW.2.1.2.2.1 nw_56 m_242 m_2 m_243 rfl rfl (by decide +kernel) ⟨Nat.le_of_ble_eq_true rfl, Nat.le_of_ble_eq_true rfl⟩ rfl hl.1 rfl (Nat.le_of_ble_eq_true rfl) ⟨Nat.le_of_ble_eq_true rfl, Nat.le_of_ble_eq_true rfl⟩ dX1_tell_5 ?_
  refine lv_if_eq (tgt := 34) S.1 S.2.1 dX1_tell_8 (by decide) (fun hc => ?_) (fun hc => ?_)
  · have hF := it_pos hc hF
    refine lv_iconst (v := (-1 : Int32)) S.1 S.2.1 dX1_tell_34 (by decide) ?_
    obtain rfl := Option.some.inj hF
    exact xr_i S hr hlk hW rfl rfl dX1_tell_35
  · have hF := it_neg hc hF
    refine lv_iload_n S.1 S.2.1 dX1_tell_11 rfl (lv_at hl 2 rfl) ?_
    refine lv_iconst (v := (0 : Int32)) S.1 S.2.1 dX1_tell_12 (by decide) ?_
    refine lv_sipush (v := (1000 : Int32)) S.1 S.2.1 dX1_tell_13 (by decide) ?_
    obtain ⟨u2, hu2, hF⟩ := bd_of hF
    refine sc_iN (k := 3) (As := [.int a2, .int ((0 : Int32)), .int ((1000 : Int32))]) (rest := []) (cC_isWithin l hu2) S hW.2.1.2.2.1 nw_56 m_242 m_2 m_243 rfl rfl (by decide +kernel) ⟨Nat.le_of_ble_eq_true rfl, Nat.le_of_ble_eq_true rfl⟩ rfl hl.1 rfl (Nat.le_of_ble_eq_true rfl) ⟨Nat.le_of_ble_eq_true rfl, Nat.le_of_ble_eq_true rfl⟩ dX1_tell_16 ?_
    refine lv_if_eq (tgt := 34) S.1 S.2.1 dX1_tell_19 (by decide) (fun hc => ?_) (fun hc => ?_)
    · have hF := it_pos hc hF
      refine lv_iconst (v := (-1 : Int32)) S.1 S.2.1 dX1_tell_34 (by decide) ?_
      obtain rfl := Option.some.inj hF
      exact xr_i S hr hlk hW rfl rfl dX1_tell_35
    · have hF := it_neg hc hF
      refine lv_aload_n S.1 S.2.1 dX1_tell_22 rfl (lv_at hl 0 rfl) ?_
      obtain ⟨h3, hF⟩ := gd_of hF
      refine xg_X1_15 S hW (Nat.lt_of_not_le h3) dX1_tell_23 ?_
      refine lv_iload_n S.1 S.2.1 dX1_tell_26 rfl (lv_at hl 2 rfl) ?_
      refine lv_iadd S.1 S.2.1 dX1_tell_27 ?_
      refine lv_sipush (v := (5000 : Int32)) S.1 S.2.1 dX1_tell_28 (by decide) ?_
      refine lv_icmp_le (tgt := 36) S.1 S.2.1 dX1_tell_31 (by decide) (fun hc => ?_) (fun hc => ?_)
      · have hF := it_pos hc hF
        refine lv_aload_n S.1 S.2.1 dX1_tell_36 rfl (lv_at hl 0 rfl) ?_
        refine lv_iload_n S.1 S.2.1 dX1_tell_37 rfl (lv_at hl 1 rfl) ?_
        refine xp_X1_19 S hW (Nat.lt_of_not_le h3) dX1_tell_38 (fun H locs hW => ?_)
        refine lv_aload_n S.1 S.2.1 dX1_tell_41 rfl (lv_at hl 0 rfl) ?_
        refine lv_dup S.1 S.2.1 dX1_tell_42 rfl ?_
        refine xg_X1_15 S hW (Nat.lt_of_not_le h3) dX1_tell_43 ?_
        refine lv_iload_n S.1 S.2.1 dX1_tell_46 rfl (lv_at hl 2 rfl) ?_
        refine lv_iadd S.1 S.2.1 dX1_tell_47 ?_
        refine xp_X1_15 S hW (Nat.lt_of_not_le h3) dX1_tell_48 (fun H locs hW => ?_)
        refine lv_aload_n S.1 S.2.1 dX1_tell_51 rfl (lv_at hl 0 rfl) ?_
        refine lv_dup S.1 S.2.1 dX1_tell_52 rfl ?_
        refine xg_X1_22 S hW (Nat.lt_of_not_le h3) dX1_tell_53 ?_
        refine lv_iload_n S.1 S.2.1 dX1_tell_56 rfl (lv_at hl 2 rfl) ?_
        refine lv_iadd S.1 S.2.1 dX1_tell_57 ?_
        refine xp_X1_22 S hW (Nat.lt_of_not_le h3) dX1_tell_58 (fun H locs hW => ?_)
        refine lv_aload_n S.1 S.2.1 dX1_tell_61 rfl (lv_at hl 0 rfl) ?_
        refine xg_X1_22 S hW (Nat.lt_of_not_le h3) dX1_tell_62 ?_
        obtain rfl := Option.some.inj hF
        exact xr_i S hr hlk hW rfl rfl dX1_tell_65
      · have hF := it_neg hc hF
        refine lv_iconst (v := (-1 : Int32)) S.1 S.2.1 dX1_tell_34 (by decide) ?_
        obtain rfl := Option.some.inj hF
        exact xr_i S hr hlk hW rfl rfl dX1_tell_35
def fC_Cl_lagOf (σ : SC) (a1 : Int32) : Option (Int32) :=
  Option.bind (fC_Cl_isHouse a1) (fun u1 =>
  if u1 = 0 then
  some ((2 : Int32))
  else
  if a1 < 0 ∨ 10 ≤ (a1).toNatClampNeg then none else
  some ((xf σ 4 (a1).toNatClampNeg)))
set_option maxRecDepth 100000 in
set_option maxHeartbeats 4000000 in
theorem cC_Cl_lagOf (l : Launch) (D : va_G) (ad : Nat → Nat) (cA : Nat → ClassId) (kk : Nat → Nat) (A : Nat → Prop) (aM aC aE : Nat → Nat) (X : va_W) {σ : SC} {a1 : Int32} {o : Int32} (hF : fC_Cl_lagOf σ a1 = some o) : Mi l yX2_lagOf cX2_lagOf 2 .int { frames := 2, cells := 0, slots := 0, locals := 42 } [.ref (ad 8), .int a1] (CP D ad cA kk A aM aC aE X σ) o (CP D ad cA kk A aM aC aE X σ) A := by
  refine Mi.of (own := RX2) rfl (by decide +kernel) (Nat.le_of_ble_eq_true rfl) ?_
  intro p e s m args below meth c ls S hr hlk hP hl
  have hW := CW.start hP
  have hl : lv_has ls 2 [(0, .ref (ad 8)), (1, .int a1)] := hl
  rw [fC_Cl_lagOf] at hF
  refine lv_iload_n S.1 S.2.1 dX2_lagOf_0 rfl (lv_at hl 1 rfl) ?_
  obtain ⟨u1, hu1, hF⟩ := bd_of hF
  refine kc_s (k := 1) (As := [.int a1]) (rest := []) (cC_Cl_isHouse l hu1) (fun U hU hw => (hW.2.1.2.2.1).warm hw) (fun _ _ _ _ h => h.same) S (gd_S m_495 m_496 m_27 m_497) rfl rfl (by decide +kernel) ⟨Nat.le_of_ble_eq_true rfl, Nat.le_of_ble_eq_true rfl⟩ rfl hl.1 rfl (Nat.le_of_ble_eq_true rfl) ⟨Nat.le_of_ble_eq_true rfl, Nat.le_of_ble_eq_true rfl⟩ dX2_lagOf_1 ?_
  refine lv_if_eq (tgt := 16) S.1 S.2.1 dX2_lagOf_4 (by decide) (fun hc => ?_) (fun hc => ?_)
  · have hF := it_pos hc hF
    refine lv_iconst (v := (2 : Int32)) S.1 S.2.1 dX2_lagOf_16 (by decide) ?_
    obtain rfl := Option.some.inj hF
    exact xr_i S hr hlk hW rfl rfl dX2_lagOf_17
  · have hF := it_neg hc hF
    refine lv_aload_n S.1 S.2.1 dX2_lagOf_7 rfl (lv_at hl 0 rfl) ?_
    refine xg_X2_15 S hW dX2_lagOf_8 ?_
    refine lv_iload_n S.1 S.2.1 dX2_lagOf_11 rfl (lv_at hl 1 rfl) ?_
    obtain ⟨h2, hF⟩ := gd_of hF
    refine xl_9 S hW h2 dX2_lagOf_12 ?_
    refine lv_goto (tgt := 17) S.1 S.2.1 dX2_lagOf_13 (by decide) ?_
    obtain rfl := Option.some.inj hF
    exact xr_i S hr hlk hW rfl rfl dX2_lagOf_17
def fC_Cl_findChoice (σ : SC) (a1 : Int32) : Option (Option Nat) :=
  Option.bind (fC_isWithin a1 ((0 : Int32)) (((nI (xn σ 1)) - (1 : Int32)))) (fun u1 =>
  if u1 = 0 then
  some none
  else
  if a1 < 0 ∨ xn σ 1 ≤ (a1).toNatClampNeg then none else
  some (some ((a1).toNatClampNeg)))
set_option maxRecDepth 100000 in
set_option maxHeartbeats 4000000 in
theorem cC_Cl_findChoice (l : Launch) (D : va_G) (ad : Nat → Nat) (cA : Nat → ClassId) (kk : Nat → Nat) (A : Nat → Prop) (aM aC aE : Nat → Nat) (X : va_W) {σ : SC} {a1 : Int32} {o : Option Nat} (hF : fC_Cl_findChoice σ a1 = some o) : Mo l yX2_findChoice cX2_findChoice 2 (.object "BookClub$Choice") { frames := 3, cells := 0, slots := 0, locals := 64 } [.ref (ad 8), .int a1] (CP D ad cA kk A aM aC aE X σ) (Option.map aC o) (CP D ad cA kk A aM aC aE X σ) A := by
  refine Mo.of (own := RX2) rfl (by decide +kernel) (Nat.le_of_ble_eq_true rfl) ?_
  intro p e s m args below meth c ls S hr hlk hP hl
  have hW := CW.start hP
  have hl : lv_has ls 2 [(0, .ref (ad 8)), (1, .int a1)] := hl
  rw [fC_Cl_findChoice] at hF
  refine lv_iload_n S.1 S.2.1 dX2_findChoice_0 rfl (lv_at hl 1 rfl) ?_
  refine lv_iconst (v := (0 : Int32)) S.1 S.2.1 dX2_findChoice_1 (by decide) ?_
  refine lv_aload_n S.1 S.2.1 dX2_findChoice_2 rfl (lv_at hl 0 rfl) ?_
  refine xg_X2_36 S hW dX2_findChoice_3 ?_
  refine xsz_1 S hW (gd_V m_516 m_517 m_518 m_72 m_519) ⟨Nat.le_of_ble_eq_true rfl, Nat.le_of_ble_eq_true rfl⟩ hl.1 (Nat.le_of_ble_eq_true rfl) ⟨Nat.le_of_ble_eq_true rfl, Nat.le_of_ble_eq_true rfl⟩ dX2_findChoice_6 ?_
  refine lv_iconst (v := (1 : Int32)) S.1 S.2.1 dX2_findChoice_9 (by decide) ?_
  refine lv_isub S.1 S.2.1 dX2_findChoice_10 ?_
  obtain ⟨u1, hu1, hF⟩ := bd_of hF
  refine sc_iN (k := 3) (As := [.int a1, .int ((0 : Int32)), .int (((nI (xn σ 1)) - (1 : Int32)))]) (rest := []) (cC_isWithin l hu1) S hW.2.1.2.2.1 nw_23 m_242 m_2 m_243 rfl rfl (by decide +kernel) ⟨Nat.le_of_ble_eq_true rfl, Nat.le_of_ble_eq_true rfl⟩ rfl hl.1 rfl (Nat.le_of_ble_eq_true rfl) ⟨Nat.le_of_ble_eq_true rfl, Nat.le_of_ble_eq_true rfl⟩ dX2_findChoice_11 ?_
  refine lv_if_eq (tgt := 31) S.1 S.2.1 dX2_findChoice_14 (by decide) (fun hc => ?_) (fun hc => ?_)
  · have hF := it_pos hc hF
    refine lv_null S.1 S.2.1 dX2_findChoice_31 ?_
    obtain rfl := Option.some.inj hF
    exact xr_o (v := none) S hr (Or.inl ⟨_, rfl⟩) hlk hW rfl dX2_findChoice_32
  · have hF := it_neg hc hF
    refine lv_aload_n S.1 S.2.1 dX2_findChoice_17 rfl (lv_at hl 0 rfl) ?_
    refine xg_X2_36 S hW dX2_findChoice_18 ?_
    refine lv_iload_n S.1 S.2.1 dX2_findChoice_21 rfl (lv_at hl 1 rfl) ?_
    obtain ⟨h2, hF⟩ := gd_of hF
    refine xgt_1 h2 S hW (gd_V m_579 m_580 m_581 m_72 m_582) ⟨Nat.le_of_ble_eq_true rfl, Nat.le_of_ble_eq_true rfl⟩ hl.1 (Nat.le_of_ble_eq_true rfl) ⟨Nat.le_of_ble_eq_true rfl, Nat.le_of_ble_eq_true rfl⟩ dX2_findChoice_22 ?_
    refine xcast_C S hW (Nat.lt_of_not_le (fun q => h2 (Or.inr q))) m_79 dX2_findChoice_25 ?_
    refine lv_goto (tgt := 32) S.1 S.2.1 dX2_findChoice_28 (by decide) ?_
    obtain rfl := Option.some.inj hF
    exact xr_o (v := some (aC ((a1).toNatClampNeg))) S hr (Or.inl ⟨_, rfl⟩) hlk hW rfl dX2_findChoice_32
def fC_Co_percentOfPrice (σ : SC) (a0 : Nat) (a1 : Int32) : Option (Int32) :=
  if xn σ 1 ≤ a0 then none else
  some ((((xc σ 0 a0) * a1) / (100 : Int32)))
set_option maxRecDepth 100000 in
set_option maxHeartbeats 4000000 in
theorem cC_Co_percentOfPrice (l : Launch) (D : va_G) (ad : Nat → Nat) (cA : Nat → ClassId) (kk : Nat → Nat) (A : Nat → Prop) (aM aC aE : Nat → Nat) (X : va_W) {σ : SC} {a0 : Nat} {a1 : Int32} {o : Int32} (hF : fC_Co_percentOfPrice σ a0 a1 = some o) : Mi l yX1_percentOfPrice cX1_percentOfPrice 2 .int { frames := 0, cells := 0, slots := 0, locals := 0 } [.ref (aC a0), .int a1] (CP D ad cA kk A aM aC aE X σ) o (CP D ad cA kk A aM aC aE X σ) A := by
  refine Mi.of (own := RX1) rfl (by decide +kernel) (Nat.le_of_ble_eq_true rfl) ?_
  intro p e s m args below meth c ls S hr hlk hP hl
  have hW := CW.start hP
  have hl : lv_has ls 2 [(0, .ref (aC a0)), (1, .int a1)] := hl
  rw [fC_Co_percentOfPrice] at hF
  refine lv_aload_n S.1 S.2.1 dX1_percentOfPrice_0 rfl (lv_at hl 0 rfl) ?_
  obtain ⟨h1, hF⟩ := gd_of hF
  refine xg_X1_19 S hW (Nat.lt_of_not_le h1) dX1_percentOfPrice_1 ?_
  refine lv_iload_n S.1 S.2.1 dX1_percentOfPrice_4 rfl (lv_at hl 1 rfl) ?_
  refine lv_imul S.1 S.2.1 dX1_percentOfPrice_5 ?_
  refine lv_bipush (v := (100 : Int32)) S.1 S.2.1 dX1_percentOfPrice_6 (by decide) ?_
  refine lv_idiv S.1 S.2.1 dX1_percentOfPrice_8 (by decide) ?_
  obtain rfl := Option.some.inj hF
  exact xr_i S hr hlk hW rfl rfl dX1_percentOfPrice_9
def fC_Co_putBack (σ : SC) (a0 : Nat) : Option (SC) :=
  if xn σ 1 ≤ a0 then none else
  some (yc (yc σ 2 a0 (((xc σ 2 a0) + (1 : Int32)))) 4 a0 (((xc (yc σ 2 a0 (((xc σ 2 a0) + (1 : Int32)))) 4 a0) + (1 : Int32))))
set_option maxRecDepth 100000 in
set_option maxHeartbeats 4000000 in
theorem cC_Co_putBack (l : Launch) (D : va_G) (ad : Nat → Nat) (cA : Nat → ClassId) (kk : Nat → Nat) (A : Nat → Prop) (aM aC aE : Nat → Nat) (X : va_W) {σ : SC} {a0 : Nat} {o : SC} (hF : fC_Co_putBack σ a0 = some o) : Mv l yX1_putBack cX1_putBack 1 { frames := 0, cells := 0, slots := 0, locals := 0 } [.ref (aC a0)] (CP D ad cA kk A aM aC aE X σ) (CP D ad cA kk A aM aC aE X o) A := by
  refine Mv.of (own := RX1) rfl (by decide +kernel) (Nat.le_of_ble_eq_true rfl) ?_
  intro p e s m args below meth c ls S hr hlk hP hl _
  have hW := CW.start hP
  have hl : lv_has ls 1 [(0, .ref (aC a0))] := hl
  rw [fC_Co_putBack] at hF
  refine lv_aload_n S.1 S.2.1 dX1_putBack_0 rfl (lv_at hl 0 rfl) ?_
  refine lv_dup S.1 S.2.1 dX1_putBack_1 rfl ?_
  obtain ⟨h1, hF⟩ := gd_of hF
  refine xg_X1_22 S hW (Nat.lt_of_not_le h1) dX1_putBack_2 ?_
  refine lv_iconst (v := (1 : Int32)) S.1 S.2.1 dX1_putBack_5 (by decide) ?_
  refine lv_iadd S.1 S.2.1 dX1_putBack_6 ?_
  refine xp_X1_22 S hW (Nat.lt_of_not_le h1) dX1_putBack_7 (fun H locs hW => ?_)
  refine lv_aload_n S.1 S.2.1 dX1_putBack_10 rfl (lv_at hl 0 rfl) ?_
  refine lv_dup S.1 S.2.1 dX1_putBack_11 rfl ?_
  refine xg_X1_34 S hW (Nat.lt_of_not_le h1) dX1_putBack_12 ?_
  refine lv_iconst (v := (1 : Int32)) S.1 S.2.1 dX1_putBack_15 (by decide) ?_
  refine lv_iadd S.1 S.2.1 dX1_putBack_16 ?_
  refine xp_X1_34 S hW (Nat.lt_of_not_le h1) dX1_putBack_17 (fun H locs hW => ?_)
  obtain rfl := Option.some.inj hF
  exact xr_v S hr hlk hW dX1_putBack_20
def fC_Me_forgetLatestChoice (σ : SC) (a0 : Nat) : Option (SC) :=
  if xn σ 0 ≤ a0 then none else
  some (ym (ym (ym σ 8 a0 ((0 : Int32))) 9 a0 ((0 : Int32))) 10 a0 ((0 : Int32)))
set_option maxRecDepth 100000 in
set_option maxHeartbeats 4000000 in
theorem cC_Me_forgetLatestChoice (l : Launch) (D : va_G) (ad : Nat → Nat) (cA : Nat → ClassId) (kk : Nat → Nat) (A : Nat → Prop) (aM aC aE : Nat → Nat) (X : va_W) {σ : SC} {a0 : Nat} {o : SC} (hF : fC_Me_forgetLatestChoice σ a0 = some o) : Mv l yX6_forgetLatestChoice cX6_forgetLatestChoice 1 { frames := 0, cells := 0, slots := 0, locals := 0 } [.ref (aM a0)] (CP D ad cA kk A aM aC aE X σ) (CP D ad cA kk A aM aC aE X o) A := by
  refine Mv.of (own := RX6) rfl (by decide +kernel) (Nat.le_of_ble_eq_true rfl) ?_
  intro p e s m args below meth c ls S hr hlk hP hl _
  have hW := CW.start hP
  have hl : lv_has ls 1 [(0, .ref (aM a0))] := hl
  rw [fC_Me_forgetLatestChoice] at hF
  refine lv_aload_n S.1 S.2.1 dX6_forgetLatestChoice_0 rfl (lv_at hl 0 rfl) ?_
  refine lv_iconst (v := (0 : Int32)) S.1 S.2.1 dX6_forgetLatestChoice_1 (by decide) ?_
  obtain ⟨h1, hF⟩ := gd_of hF
  refine xp_X6_27 S hW (Nat.lt_of_not_le h1) rfl rfl dX6_forgetLatestChoice_2 (fun H locs hW => ?_)
  refine lv_aload_n S.1 S.2.1 dX6_forgetLatestChoice_5 rfl (lv_at hl 0 rfl) ?_
  refine lv_iconst (v := (0 : Int32)) S.1 S.2.1 dX6_forgetLatestChoice_6 (by decide) ?_
  refine xp_X6_31 S hW (Nat.lt_of_not_le h1) rfl rfl dX6_forgetLatestChoice_7 (fun H locs hW => ?_)
  refine lv_aload_n S.1 S.2.1 dX6_forgetLatestChoice_10 rfl (lv_at hl 0 rfl) ?_
  refine lv_iconst (v := (0 : Int32)) S.1 S.2.1 dX6_forgetLatestChoice_11 (by decide) ?_
  refine xp_X6_34 S hW (Nat.lt_of_not_le h1) rfl rfl dX6_forgetLatestChoice_12 (fun H locs hW => ?_)
  obtain rfl := Option.some.inj hF
  exact xr_v S hr hlk hW dX6_forgetLatestChoice_15
def fC_Me_refusedInTime (σ : SC) (a0 : Nat) (a1 : Int32) : Option (Int32) :=
  if xn σ 0 ≤ a0 then none else
  if (xm σ 7 a0) ≤ 0 then
  some ((0 : Int32))
  else
  if a1 < (xm σ 7 a0) then
  some ((0 : Int32))
  else
  some ((1 : Int32))
set_option maxRecDepth 100000 in
set_option maxHeartbeats 4000000 in
theorem cC_Me_refusedInTime (l : Launch) (D : va_G) (ad : Nat → Nat) (cA : Nat → ClassId) (kk : Nat → Nat) (A : Nat → Prop) (aM aC aE : Nat → Nat) (X : va_W) {σ : SC} {a0 : Nat} {a1 : Int32} {o : Int32} (hF : fC_Me_refusedInTime σ a0 a1 = some o) : Mi l yX6_refusedInTime cX6_refusedInTime 2 .boolean { frames := 0, cells := 0, slots := 0, locals := 0 } [.ref (aM a0), .int a1] (CP D ad cA kk A aM aC aE X σ) o (CP D ad cA kk A aM aC aE X σ) A := by
  refine Mi.of (own := RX6) rfl (by decide +kernel) (Nat.le_of_ble_eq_true rfl) ?_
  intro p e s m args below meth c ls S hr hlk hP hl
  have hW := CW.start hP
  have hl : lv_has ls 2 [(0, .ref (aM a0)), (1, .int a1)] := hl
  rw [fC_Me_refusedInTime] at hF
  refine lv_aload_n S.1 S.2.1 dX6_refusedInTime_0 rfl (lv_at hl 0 rfl) ?_
  obtain ⟨h1, hF⟩ := gd_of hF
  refine xg_X6_24 S hW (Nat.lt_of_not_le h1) dX6_refusedInTime_1 ?_
  refine lv_if_le (tgt := 19) S.1 S.2.1 dX6_refusedInTime_4 (by decide) (fun hc => ?_) (fun hc => ?_)
  · have hF := it_pos hc hF
    refine lv_iconst (v := (0 : Int32)) S.1 S.2.1 dX6_refusedInTime_19 (by decide) ?_
    obtain rfl := Option.some.inj hF
    exact xr_i S hr hlk hW rfl rfl dX6_refusedInTime_20
  · have hF := it_neg hc hF
    refine lv_aload_n S.1 S.2.1 dX6_refusedInTime_7 rfl (lv_at hl 0 rfl) ?_
    refine xg_X6_24 S hW (Nat.lt_of_not_le h1) dX6_refusedInTime_8 ?_
    refine lv_iload_n S.1 S.2.1 dX6_refusedInTime_11 rfl (lv_at hl 1 rfl) ?_
    refine lv_icmp_gt (tgt := 19) S.1 S.2.1 dX6_refusedInTime_12 (by decide) (fun hc => ?_) (fun hc => ?_)
    · have hF := it_pos hc hF
      refine lv_iconst (v := (0 : Int32)) S.1 S.2.1 dX6_refusedInTime_19 (by decide) ?_
      obtain rfl := Option.some.inj hF
      exact xr_i S hr hlk hW rfl rfl dX6_refusedInTime_20
    · have hF := it_neg hc hF
      refine lv_iconst (v := (1 : Int32)) S.1 S.2.1 dX6_refusedInTime_15 (by decide) ?_
      refine lv_goto (tgt := 20) S.1 S.2.1 dX6_refusedInTime_16 (by decide) ?_
      obtain rfl := Option.some.inj hF
      exact xr_i S hr hlk hW rfl rfl dX6_refusedInTime_20
def fC_Co_takeOut (σ : SC) (a0 : Nat) : Option (SC) :=
  if xn σ 1 ≤ a0 then none else
  some (yc (yc σ 2 a0 (((xc σ 2 a0) - (1 : Int32)))) 3 a0 (((xc (yc σ 2 a0 (((xc σ 2 a0) - (1 : Int32)))) 3 a0) + (1 : Int32))))
set_option maxRecDepth 100000 in
set_option maxHeartbeats 4000000 in
theorem cC_Co_takeOut (l : Launch) (D : va_G) (ad : Nat → Nat) (cA : Nat → ClassId) (kk : Nat → Nat) (A : Nat → Prop) (aM aC aE : Nat → Nat) (X : va_W) {σ : SC} {a0 : Nat} {o : SC} (hF : fC_Co_takeOut σ a0 = some o) : Mv l yX1_takeOut cX1_takeOut 1 { frames := 0, cells := 0, slots := 0, locals := 0 } [.ref (aC a0)] (CP D ad cA kk A aM aC aE X σ) (CP D ad cA kk A aM aC aE X o) A := by
  refine Mv.of (own := RX1) rfl (by decide +kernel) (Nat.le_of_ble_eq_true rfl) ?_
  intro p e s m args below meth c ls S hr hlk hP hl _
  have hW := CW.start hP
  have hl : lv_has ls 1 [(0, .ref (aC a0))] := hl
  rw [fC_Co_takeOut] at hF
  refine lv_aload_n S.1 S.2.1 dX1_takeOut_0 rfl (lv_at hl 0 rfl) ?_
  refine lv_dup S.1 S.2.1 dX1_takeOut_1 rfl ?_
  obtain ⟨h1, hF⟩ := gd_of hF
  refine xg_X1_22 S hW (Nat.lt_of_not_le h1) dX1_takeOut_2 ?_
  refine lv_iconst (v := (1 : Int32)) S.1 S.2.1 dX1_takeOut_5 (by decide) ?_
  refine lv_isub S.1 S.2.1 dX1_takeOut_6 ?_
  refine xp_X1_22 S hW (Nat.lt_of_not_le h1) dX1_takeOut_7 (fun H locs hW => ?_)
  refine lv_aload_n S.1 S.2.1 dX1_takeOut_10 rfl (lv_at hl 0 rfl) ?_
  refine lv_dup S.1 S.2.1 dX1_takeOut_11 rfl ?_
  refine xg_X1_31 S hW (Nat.lt_of_not_le h1) dX1_takeOut_12 ?_
  refine lv_iconst (v := (1 : Int32)) S.1 S.2.1 dX1_takeOut_15 (by decide) ?_
  refine lv_iadd S.1 S.2.1 dX1_takeOut_16 ?_
  refine xp_X1_31 S hW (Nat.lt_of_not_le h1) dX1_takeOut_17 (fun H locs hW => ?_)
  obtain rfl := Option.some.inj hF
  exact xr_v S hr hlk hW dX1_takeOut_20
def fC_Cl_judgeDebt (σ : SC) (a1 : Option Nat) (a2 : Int32) (a3 : Int32) (a4 : Int32) : Option (SC) :=
  onull a1
  (none)
  (fun ia1 =>
  if xn σ 0 ≤ ia1 then none else
  Option.bind (fC_Me_owesMoreThan σ ia1 a2) (fun u1 =>
  Option.bind (if u1 = 0 then
  Option.bind (fC_Me_owesNoLonger σ ia1) (fun u4 =>
  some (u4))
  else
  some (ym σ 5 ia1 (((xm σ 5 ia1) + (1 : Int32))))) (fun u3 =>
  if a4 ≤ 0 then
  if a3 ≤ 0 then
  some u3
  else
  if xn u3 0 ≤ ia1 then none else
  if (xm u3 5 ia1) < a3 then
  some u3
  else
  some (ym u3 3 ia1 ((1 : Int32)))
  else
  if xn u3 0 ≤ ia1 then none else
  if (xm u3 5 ia1) < a4 then
  if a3 ≤ 0 then
  some u3
  else
  if (xm u3 5 ia1) < a3 then
  some u3
  else
  some (ym u3 3 ia1 ((1 : Int32)))
  else
  some (ym u3 3 ia1 ((2 : Int32))))))
set_option maxRecDepth 100000 in
set_option maxHeartbeats 4000000 in
theorem cC_Cl_judgeDebt (l : Launch) (D : va_G) (ad : Nat → Nat) (cA : Nat → ClassId) (kk : Nat → Nat) (A : Nat → Prop) (aM aC aE : Nat → Nat) (X : va_W) {σ : SC} {a1 : Option Nat} {a2 : Int32} {a3 : Int32} {a4 : Int32} {o : SC} (hF : fC_Cl_judgeDebt σ a1 a2 a3 a4 = some o) : Mv l yX2_judgeDebt cX2_judgeDebt 4 { frames := 1, cells := 0, slots := 0, locals := 21 } [va_rf (a1.map aM), .int a2, .int a3, .int a4] (CP D ad cA kk A aM aC aE X σ) (CP D ad cA kk A aM aC aE X o) A := by
  rw [fC_Cl_judgeDebt] at hF
  rcases on_of hF with ⟨he, hF⟩ | ⟨ia1, he, hF⟩
  · subst he
    refine Mv.of (own := RX2) rfl (by decide +kernel) (Nat.le_of_ble_eq_true rfl) ?_
    intro p e s m args below meth c ls S hr hlk hP hl _
    have hW := CW.start hP
    have hl : lv_has ls 4 [(0, .null), (1, .int a2), (2, .int a3), (3, .int a4)] := hl
    refine lv_aload_nN S.1 S.2.1 dX2_judgeDebt_0 rfl (lv_at hl 0 rfl) ?_
    refine lv_iload_n S.1 S.2.1 dX2_judgeDebt_1 rfl (lv_at hl 1 rfl) ?_
    cases hF
  · subst he
    refine Mv.of (own := RX2) rfl (by decide +kernel) (Nat.le_of_ble_eq_true rfl) ?_
    intro p e s m args below meth c ls S hr hlk hP hl _
    have hW := CW.start hP
    have hl : lv_has ls 4 [(0, .ref (aM ia1)), (1, .int a2), (2, .int a3), (3, .int a4)] := hl
    refine lv_aload_n S.1 S.2.1 dX2_judgeDebt_0 rfl (lv_at hl 0 rfl) ?_
    refine lv_iload_n S.1 S.2.1 dX2_judgeDebt_1 rfl (lv_at hl 1 rfl) ?_
    obtain ⟨h2, hF⟩ := gd_of hF
    obtain ⟨u1, hu1, hF⟩ := bd_of hF
    refine xc_i (k := 1) (As := [.int a2]) (rest := []) (cC_Me_owesMoreThan l D ad cA kk A aM aC aE X hu1) (xr_M hW (Nat.lt_of_not_le h2)) S hW (gd_V m_614 m_615 m_616 m_512 m_617) (by decide +kernel) ⟨Nat.le_of_ble_eq_true rfl, Nat.le_of_ble_eq_true rfl⟩ rfl hl.1 rfl (Nat.le_of_ble_eq_true rfl) ⟨Nat.le_of_ble_eq_true rfl, Nat.le_of_ble_eq_true rfl⟩ dX2_judgeDebt_2 (fun H locs hW => ?_)
    obtain ⟨u3, hX, hF⟩ := bd_of hF
    refine jn1 (fun H locs ls => lv_has ls 4 [(0, .ref (aM ia1)), (2, .int a3), (3, .int a4)] ∧ CW D ad cA kk A aM aC aE X u3 s H locs) 25 [] (fun H locs ls hJ => ?_) (fun Ju3 => ?_)
    · obtain ⟨hl, hW⟩ := hJ
      refine lv_iload_n S.1 S.2.1 dX2_judgeDebt_25 rfl (lv_at hl 2 rfl) ?_
      refine lv_if_le (tgt := 45) S.1 S.2.1 dX2_judgeDebt_26 (by decide) (fun hc => ?_) (fun hc => ?_)
      · have hF := it_pos hc hF
        refine lv_iload_n S.1 S.2.1 dX2_judgeDebt_45 rfl (lv_at hl 1 rfl) ?_
        refine lv_if_le (tgt := 62) S.1 S.2.1 dX2_judgeDebt_46 (by decide) (fun hc => ?_) (fun hc => ?_)
        · have hF := it_pos hc hF
          obtain rfl := Option.some.inj hF
          exact xr_v S hr hlk hW dX2_judgeDebt_62
        · have hF := it_neg hc hF
          refine lv_aload_n S.1 S.2.1 dX2_judgeDebt_49 rfl (lv_at hl 0 rfl) ?_
          obtain ⟨h5, hF⟩ := gd_of hF
          refine xg_X2_196 S hW (Nat.lt_of_not_le h5) dX2_judgeDebt_50 ?_
          refine lv_iload_n S.1 S.2.1 dX2_judgeDebt_53 rfl (lv_at hl 1 rfl) ?_
          refine lv_icmp_lt (tgt := 62) S.1 S.2.1 dX2_judgeDebt_54 (by decide) (fun hc => ?_) (fun hc => ?_)
          · have hF := it_pos hc hF
            obtain rfl := Option.some.inj hF
            exact xr_v S hr hlk hW dX2_judgeDebt_62
          · have hF := it_neg hc hF
            refine lv_aload_n S.1 S.2.1 dX2_judgeDebt_57 rfl (lv_at hl 0 rfl) ?_
            refine lv_iconst (v := (1 : Int32)) S.1 S.2.1 dX2_judgeDebt_58 (by decide) ?_
            refine xp_X2_75 S hW (Nat.lt_of_not_le h5) dX2_judgeDebt_59 (fun H locs hW => ?_)
            obtain rfl := Option.some.inj hF
            exact xr_v S hr hlk hW dX2_judgeDebt_62
      · have hF := it_neg hc hF
        refine lv_aload_n S.1 S.2.1 dX2_judgeDebt_29 rfl (lv_at hl 0 rfl) ?_
        obtain ⟨h6, hF⟩ := gd_of hF
        refine xg_X2_196 S hW (Nat.lt_of_not_le h6) dX2_judgeDebt_30 ?_
        refine lv_iload_n S.1 S.2.1 dX2_judgeDebt_33 rfl (lv_at hl 2 rfl) ?_
        refine lv_icmp_lt (tgt := 45) S.1 S.2.1 dX2_judgeDebt_34 (by decide) (fun hc => ?_) (fun hc => ?_)
        · have hF := it_pos hc hF
          refine lv_iload_n S.1 S.2.1 dX2_judgeDebt_45 rfl (lv_at hl 1 rfl) ?_
          refine lv_if_le (tgt := 62) S.1 S.2.1 dX2_judgeDebt_46 (by decide) (fun hc => ?_) (fun hc => ?_)
          · have hF := it_pos hc hF
            obtain rfl := Option.some.inj hF
            exact xr_v S hr hlk hW dX2_judgeDebt_62
          · have hF := it_neg hc hF
            refine lv_aload_n S.1 S.2.1 dX2_judgeDebt_49 rfl (lv_at hl 0 rfl) ?_
            refine xg_X2_196 S hW (Nat.lt_of_not_le h6) dX2_judgeDebt_50 ?_
            refine lv_iload_n S.1 S.2.1 dX2_judgeDebt_53 rfl (lv_at hl 1 rfl) ?_
            refine lv_icmp_lt (tgt := 62) S.1 S.2.1 dX2_judgeDebt_54 (by decide) (fun hc => ?_) (fun hc => ?_)
            · have hF := it_pos hc hF
              obtain rfl := Option.some.inj hF
              exact xr_v S hr hlk hW dX2_judgeDebt_62
            · have hF := it_neg hc hF
              refine lv_aload_n S.1 S.2.1 dX2_judgeDebt_57 rfl (lv_at hl 0 rfl) ?_
              refine lv_iconst (v := (1 : Int32)) S.1 S.2.1 dX2_judgeDebt_58 (by decide) ?_
              refine xp_X2_75 S hW (Nat.lt_of_not_le h6) dX2_judgeDebt_59 (fun H locs hW => ?_)
              obtain rfl := Option.some.inj hF
              exact xr_v S hr hlk hW dX2_judgeDebt_62
        · have hF := it_neg hc hF
          refine lv_aload_n S.1 S.2.1 dX2_judgeDebt_37 rfl (lv_at hl 0 rfl) ?_
          refine lv_iconst (v := (2 : Int32)) S.1 S.2.1 dX2_judgeDebt_38 (by decide) ?_
          refine xp_X2_75 S hW (Nat.lt_of_not_le h6) dX2_judgeDebt_39 (fun H locs hW => ?_)
          refine lv_goto (tgt := 62) S.1 S.2.1 dX2_judgeDebt_42 (by decide) ?_
          obtain rfl := Option.some.inj hF
          exact xr_v S hr hlk hW dX2_judgeDebt_62
    · have hF := hX
      refine lv_if_eq (tgt := 21) S.1 S.2.1 dX2_judgeDebt_5 (by decide) (fun hc => ?_) (fun hc => ?_)
      · have hF := it_pos hc hF
        refine lv_aload_n S.1 S.2.1 dX2_judgeDebt_21 rfl (lv_at hl 0 rfl) ?_
        obtain ⟨u4, hu4, hF⟩ := bd_of hF
        refine xc_v (k := 0) (As := []) (rest := []) (cC_Me_owesNoLonger l D ad cA kk A aM aC aE X hu4) (xr_M hW (Nat.lt_of_not_le h2)) S hW (gd_V m_619 m_620 m_621 m_512 m_622) (by decide +kernel) ⟨Nat.le_of_ble_eq_true rfl, Nat.le_of_ble_eq_true rfl⟩ rfl hl.1 rfl (Nat.le_of_ble_eq_true rfl) ⟨Nat.le_of_ble_eq_true rfl, Nat.le_of_ble_eq_true rfl⟩ dX2_judgeDebt_22 (fun H locs hW => ?_)
        obtain rfl := Option.some.inj hF
        exact Ju3 _ _ _ ⟨lv_sub hl [0, 2, 3] rfl, hW⟩
      · have hF := it_neg hc hF
        refine lv_aload_n S.1 S.2.1 dX2_judgeDebt_8 rfl (lv_at hl 0 rfl) ?_
        refine lv_dup S.1 S.2.1 dX2_judgeDebt_9 rfl ?_
        refine xg_X2_196 S hW (Nat.lt_of_not_le h2) dX2_judgeDebt_10 ?_
        refine lv_iconst (v := (1 : Int32)) S.1 S.2.1 dX2_judgeDebt_13 (by decide) ?_
        refine lv_iadd S.1 S.2.1 dX2_judgeDebt_14 ?_
        refine xp_X2_196 S hW (Nat.lt_of_not_le h2) dX2_judgeDebt_15 (fun H locs hW => ?_)
        refine lv_goto (tgt := 25) S.1 S.2.1 dX2_judgeDebt_18 (by decide) ?_
        obtain rfl := Option.some.inj hF
        exact Ju3 _ _ _ ⟨lv_sub hl [0, 2, 3] rfl, hW⟩
def fC_Co_dispose (σ : SC) (a0 : Nat) (a1 : Int32) (a2 : Int32) : Option (Int32 × SC) :=
  Option.bind (fC_isWithin a1 ((0 : Int32)) ((1 : Int32))) (fun u1 =>
  if u1 = 0 then
  some ((-1 : Int32), σ)
  else
  if xn σ 1 ≤ a0 then none else
  Option.bind (fC_isWithin a2 ((0 : Int32)) ((xc σ 2 a0))) (fun u3 =>
  if u3 = 0 then
  some ((-1 : Int32), σ)
  else
  Option.bind (if a1 = 0 then
  some (yc σ 5 a0 (((xc σ 5 a0) + a2)))
  else
  some (yc σ 6 a0 (((xc σ 6 a0) + a2)))) (fun u4 =>
  if xn u4 1 ≤ a0 then none else
  some ((xc (yc u4 2 a0 (((xc u4 2 a0) - a2))) 2 a0), yc u4 2 a0 (((xc u4 2 a0) - a2))))))
set_option maxRecDepth 100000 in
set_option maxHeartbeats 4000000 in
theorem cC_Co_dispose (l : Launch) (D : va_G) (ad : Nat → Nat) (cA : Nat → ClassId) (kk : Nat → Nat) (A : Nat → Prop) (aM aC aE : Nat → Nat) (X : va_W) {σ : SC} {a0 : Nat} {a1 : Int32} {a2 : Int32} {o : Int32 × SC} (hF : fC_Co_dispose σ a0 a1 a2 = some o) : Mi l yX1_dispose cX1_dispose 3 .int { frames := 1, cells := 0, slots := 0, locals := 22 } [.ref (aC a0), .int a1, .int a2] (CP D ad cA kk A aM aC aE X σ) o.1 (CP D ad cA kk A aM aC aE X (o.2)) A := by
  refine Mi.of (own := RX1) rfl (by decide +kernel) (Nat.le_of_ble_eq_true rfl) ?_
  intro p e s m args below meth c ls S hr hlk hP hl
  have hW := CW.start hP
  have hl : lv_has ls 3 [(0, .ref (aC a0)), (1, .int a1), (2, .int a2)] := hl
  rw [fC_Co_dispose] at hF
  refine lv_iload_n S.1 S.2.1 dX1_dispose_0 rfl (lv_at hl 1 rfl) ?_
  refine lv_iconst (v := (0 : Int32)) S.1 S.2.1 dX1_dispose_1 (by decide) ?_
  refine lv_iconst (v := (1 : Int32)) S.1 S.2.1 dX1_dispose_2 (by decide) ?_
  obtain ⟨u1, hu1, hF⟩ := bd_of hF
  refine sc_iN (k := 3) (As := [.int a1, .int ((0 : Int32)), .int ((1 : Int32))]) (rest := []) (cC_isWithin l hu1) S hW.2.1.2.2.1 nw_56 m_242 m_2 m_243 rfl rfl (by decide +kernel) ⟨Nat.le_of_ble_eq_true rfl, Nat.le_of_ble_eq_true rfl⟩ rfl hl.1 rfl (Nat.le_of_ble_eq_true rfl) ⟨Nat.le_of_ble_eq_true rfl, Nat.le_of_ble_eq_true rfl⟩ dX1_dispose_3 ?_
  refine lv_if_eq (tgt := 21) S.1 S.2.1 dX1_dispose_6 (by decide) (fun hc => ?_) (fun hc => ?_)
  · have hF := it_pos hc hF
    refine lv_iconst (v := (-1 : Int32)) S.1 S.2.1 dX1_dispose_21 (by decide) ?_
    obtain rfl := Option.some.inj hF
    exact xr_i S hr hlk hW rfl rfl dX1_dispose_22
  · have hF := it_neg hc hF
    refine lv_iload_n S.1 S.2.1 dX1_dispose_9 rfl (lv_at hl 2 rfl) ?_
    refine lv_iconst (v := (0 : Int32)) S.1 S.2.1 dX1_dispose_10 (by decide) ?_
    refine lv_aload_n S.1 S.2.1 dX1_dispose_11 rfl (lv_at hl 0 rfl) ?_
    obtain ⟨h2, hF⟩ := gd_of hF
    refine xg_X1_22 S hW (Nat.lt_of_not_le h2) dX1_dispose_12 ?_
    obtain ⟨u3, hu3, hF⟩ := bd_of hF
    refine sc_iN (k := 3) (As := [.int a2, .int ((0 : Int32)), .int ((xc σ 2 a0))]) (rest := []) (cC_isWithin l hu3) S hW.2.1.2.2.1 nw_56 m_242 m_2 m_243 rfl rfl (by decide +kernel) ⟨Nat.le_of_ble_eq_true rfl, Nat.le_of_ble_eq_true rfl⟩ rfl hl.1 rfl (Nat.le_of_ble_eq_true rfl) ⟨Nat.le_of_ble_eq_true rfl, Nat.le_of_ble_eq_true rfl⟩ dX1_dispose_15 ?_
    refine lv_if_ne (tgt := 23) S.1 S.2.1 dX1_dispose_18 (by decide) (fun hc => ?_) (fun hc => ?_)
    · have hF := it_neg hc hF
      refine lv_iload_n S.1 S.2.1 dX1_dispose_23 rfl (lv_at hl 1 rfl) ?_
      obtain ⟨u4, hX, hF⟩ := bd_of hF
      refine jn1 (fun H locs ls => lv_has ls 3 [(0, .ref (aC a0)), (2, .int a2)] ∧ CW D ad cA kk A aM aC aE X u4 s H locs) 50 [] (fun H locs ls hJ => ?_) (fun Ju4 => ?_)
      · obtain ⟨hl, hW⟩ := hJ
        refine lv_aload_n S.1 S.2.1 dX1_dispose_50 rfl (lv_at hl 0 rfl) ?_
        refine lv_dup S.1 S.2.1 dX1_dispose_51 rfl ?_
        obtain ⟨h5, hF⟩ := gd_of hF
        refine xg_X1_22 S hW (Nat.lt_of_not_le h5) dX1_dispose_52 ?_
        refine lv_iload_n S.1 S.2.1 dX1_dispose_55 rfl (lv_at hl 1 rfl) ?_
        refine lv_isub S.1 S.2.1 dX1_dispose_56 ?_
        refine xp_X1_22 S hW (Nat.lt_of_not_le h5) dX1_dispose_57 (fun H locs hW => ?_)
        refine lv_aload_n S.1 S.2.1 dX1_dispose_60 rfl (lv_at hl 0 rfl) ?_
        refine xg_X1_22 S hW (Nat.lt_of_not_le h5) dX1_dispose_61 ?_
        obtain rfl := Option.some.inj hF
        exact xr_i S hr hlk hW rfl rfl dX1_dispose_64
      · have hF := hX
        refine lv_if_ne (tgt := 40) S.1 S.2.1 dX1_dispose_24 (by decide) (fun hc => ?_) (fun hc => ?_)
        · have hF := it_neg hc hF
          refine lv_aload_n S.1 S.2.1 dX1_dispose_40 rfl (lv_at hl 0 rfl) ?_
          refine lv_dup S.1 S.2.1 dX1_dispose_41 rfl ?_
          refine xg_X1_28 S hW (Nat.lt_of_not_le h2) dX1_dispose_42 ?_
          refine lv_iload_n S.1 S.2.1 dX1_dispose_45 rfl (lv_at hl 2 rfl) ?_
          refine lv_iadd S.1 S.2.1 dX1_dispose_46 ?_
          refine xp_X1_28 S hW (Nat.lt_of_not_le h2) dX1_dispose_47 (fun H locs hW => ?_)
          obtain rfl := Option.some.inj hF
          exact Ju4 _ _ _ ⟨lv_sub hl [0, 2] rfl, hW⟩
        · have hF := it_pos hc hF
          refine lv_aload_n S.1 S.2.1 dX1_dispose_27 rfl (lv_at hl 0 rfl) ?_
          refine lv_dup S.1 S.2.1 dX1_dispose_28 rfl ?_
          refine xg_X1_25 S hW (Nat.lt_of_not_le h2) dX1_dispose_29 ?_
          refine lv_iload_n S.1 S.2.1 dX1_dispose_32 rfl (lv_at hl 2 rfl) ?_
          refine lv_iadd S.1 S.2.1 dX1_dispose_33 ?_
          refine xp_X1_25 S hW (Nat.lt_of_not_le h2) dX1_dispose_34 (fun H locs hW => ?_)
          refine lv_goto (tgt := 50) S.1 S.2.1 dX1_dispose_37 (by decide) ?_
          obtain rfl := Option.some.inj hF
          exact Ju4 _ _ _ ⟨lv_sub hl [0, 2] rfl, hW⟩
    · have hF := it_pos hc hF
      refine lv_iconst (v := (-1 : Int32)) S.1 S.2.1 dX1_dispose_21 (by decide) ?_
      obtain rfl := Option.some.inj hF
      exact xr_i S hr hlk hW rfl rfl dX1_dispose_22
def fC_B_book (σ : SC) (a1 : Int32) (a2 : Int32) : Option (Int32) :=
  Option.bind (fC_Cl_findChoice σ a1) (fun u1 =>
  onull u1
  (some ((-1 : Int32)))
  (fun iu1 =>
  if a2 = (0 : Int32) then
  if xn σ 1 ≤ iu1 then none else
  some ((xc σ 0 iu1))
  else if a2 = (1 : Int32) then
  if xn σ 1 ≤ iu1 then none else
  some ((xc σ 1 iu1))
  else if a2 = (2 : Int32) then
  if xn σ 1 ≤ iu1 then none else
  some ((xc σ 2 iu1))
  else if a2 = (3 : Int32) then
  if xn σ 1 ≤ iu1 then none else
  some ((xc σ 3 iu1))
  else if a2 = (4 : Int32) then
  if xn σ 1 ≤ iu1 then none else
  some ((xc σ 4 iu1))
  else if a2 = (5 : Int32) then
  if xn σ 1 ≤ iu1 then none else
  some ((xc σ 5 iu1))
  else if a2 = (6 : Int32) then
  if xn σ 1 ≤ iu1 then none else
  some ((xc σ 6 iu1))
  else if a2 = (7 : Int32) then
  if xn σ 1 ≤ iu1 then none else
  some ((xc σ 7 iu1))
  else 
  some ((-1 : Int32))))
set_option maxRecDepth 100000 in
set_option maxHeartbeats 4000000 in
theorem cC_B_book (l : Launch) (D : va_G) (ad : Nat → Nat) (cA : Nat → ClassId) (kk : Nat → Nat) (A : Nat → Prop) (aM aC aE : Nat → Nat) (X : va_W) {σ : SC} {a1 : Int32} {a2 : Int32} {o : Int32} (hF : fC_B_book σ a1 a2 = some o) : Mi l yX10_book cX10_book 4 .int { frames := 4, cells := 0, slots := 0, locals := 85 } [.ref (ad 0), .int a1, .int a2] (CP D ad cA kk A aM aC aE X σ) o (CP D ad cA kk A aM aC aE X σ) A := by
  refine Mi.of (own := RX10) rfl (by decide +kernel) (Nat.le_of_ble_eq_true rfl) ?_
  intro p e s m args below meth c ls S hr hlk hP hl
  have hW := CW.start hP
  have hl : lv_has ls 4 [(0, .ref (ad 0)), (1, .int a1), (2, .int a2)] := hl
  rw [fC_B_book] at hF
  refine lv_aload_n S.1 S.2.1 dX10_book_0 rfl (lv_at hl 0 rfl) ?_
  refine xg_X10_37 S hW dX10_book_1 ?_
  refine lv_iload_n S.1 S.2.1 dX10_book_4 rfl (lv_at hl 1 rfl) ?_
  obtain ⟨u1, hu1, hF⟩ := bd_of hF
  refine xc_o (k := 1) (As := [.int a1]) (rest := []) (cC_Cl_findChoice l D ad cA kk A aM aC aE X hu1) (xr_RX2 hW) S hW (gd_V m_787 m_718 m_719 m_27 m_720) (by decide +kernel) ⟨Nat.le_of_ble_eq_true rfl, Nat.le_of_ble_eq_true rfl⟩ rfl hl.1 rfl (Nat.le_of_ble_eq_true rfl) ⟨Nat.le_of_ble_eq_true rfl, Nat.le_of_ble_eq_true rfl⟩ dX10_book_5 (fun H locs hW => ?_)
  rcases on_of hF with ⟨he, hF⟩ | ⟨iu1, he, hF⟩
  · refine W.eq (g2 := F0 m 8 ls (.null :: [])) (by rw [he]; rfl) ?_
    refine lv_astore_nN (lv' := [(3, .null), (0, .ref (ad 0)), (1, .int a1), (2, .int a2)]) S.1 S.2.1 dX10_book_8 rfl hl (by decide) rfl (fun ls hl => ?_)
    refine lv_aload_nN S.1 S.2.1 dX10_book_9 rfl (lv_at hl 0 rfl) ?_
    refine lv_ifnonnullN S.1 S.2.1 dX10_book_10 ?_
    refine lv_iconst (v := (-1 : Int32)) S.1 S.2.1 dX10_book_13 (by decide) ?_
    obtain rfl := Option.some.inj hF
    exact xr_i S hr hlk hW rfl rfl dX10_book_14
  · refine W.eq (g2 := F0 m 8 ls (.ref (aC iu1) :: [])) (by rw [he]; rfl) ?_
    refine lv_astore_n (lv' := [(3, .ref (aC iu1)), (0, .ref (ad 0)), (1, .int a1), (2, .int a2)]) S.1 S.2.1 dX10_book_8 rfl hl (by decide) rfl (fun ls hl => ?_)
    refine lv_aload_n S.1 S.2.1 dX10_book_9 rfl (lv_at hl 0 rfl) ?_
    refine lv_ifnonnull (tgt := 15) S.1 S.2.1 dX10_book_10 (by decide) ?_
    refine lv_iload_n S.1 S.2.1 dX10_book_15 rfl (lv_at hl 3 rfl) ?_
    rcases Classical.em (a2 = (0 : Int32)) with hc0 | hc0
    · have hF := it_pos hc0 hF
      refine lv_tableIn (off := 48) (tgt := 64) S.1 S.2.1 dX10_book_16 (by rw [hc0]; decide) (by rw [hc0]; decide) (by rw [hc0]; decide) (by decide) ?_
      refine lv_aload_n S.1 S.2.1 dX10_book_64 rfl (lv_at hl 0 rfl) ?_
      obtain ⟨h2, hF⟩ := gd_of hF
      refine xg_X10_170 S hW (Nat.lt_of_not_le h2) dX10_book_65 ?_
      obtain rfl := Option.some.inj hF
      exact xr_i S hr hlk hW rfl rfl dX10_book_68
    · have hF := it_neg hc0 hF
      rcases Classical.em (a2 = (1 : Int32)) with hc1 | hc1
      · have hF := it_pos hc1 hF
        refine lv_tableIn (off := 53) (tgt := 69) S.1 S.2.1 dX10_book_16 (by rw [hc1]; decide) (by rw [hc1]; decide) (by rw [hc1]; decide) (by decide) ?_
        refine lv_aload_n S.1 S.2.1 dX10_book_69 rfl (lv_at hl 0 rfl) ?_
        obtain ⟨h3, hF⟩ := gd_of hF
        refine xg_X10_173 S hW (Nat.lt_of_not_le h3) dX10_book_70 ?_
        obtain rfl := Option.some.inj hF
        exact xr_i S hr hlk hW rfl rfl dX10_book_73
      · have hF := it_neg hc1 hF
        rcases Classical.em (a2 = (2 : Int32)) with hc2 | hc2
        · have hF := it_pos hc2 hF
          refine lv_tableIn (off := 58) (tgt := 74) S.1 S.2.1 dX10_book_16 (by rw [hc2]; decide) (by rw [hc2]; decide) (by rw [hc2]; decide) (by decide) ?_
          refine lv_aload_n S.1 S.2.1 dX10_book_74 rfl (lv_at hl 0 rfl) ?_
          obtain ⟨h4, hF⟩ := gd_of hF
          refine xg_X10_176 S hW (Nat.lt_of_not_le h4) dX10_book_75 ?_
          obtain rfl := Option.some.inj hF
          exact xr_i S hr hlk hW rfl rfl dX10_book_78
        · have hF := it_neg hc2 hF
          rcases Classical.em (a2 = (3 : Int32)) with hc3 | hc3
          · have hF := it_pos hc3 hF
            refine lv_tableIn (off := 63) (tgt := 79) S.1 S.2.1 dX10_book_16 (by rw [hc3]; decide) (by rw [hc3]; decide) (by rw [hc3]; decide) (by decide) ?_
            refine lv_aload_n S.1 S.2.1 dX10_book_79 rfl (lv_at hl 0 rfl) ?_
            obtain ⟨h5, hF⟩ := gd_of hF
            refine xg_X10_179 S hW (Nat.lt_of_not_le h5) dX10_book_80 ?_
            obtain rfl := Option.some.inj hF
            exact xr_i S hr hlk hW rfl rfl dX10_book_83
          · have hF := it_neg hc3 hF
            rcases Classical.em (a2 = (4 : Int32)) with hc4 | hc4
            · have hF := it_pos hc4 hF
              refine lv_tableIn (off := 68) (tgt := 84) S.1 S.2.1 dX10_book_16 (by rw [hc4]; decide) (by rw [hc4]; decide) (by rw [hc4]; decide) (by decide) ?_
              refine lv_aload_n S.1 S.2.1 dX10_book_84 rfl (lv_at hl 0 rfl) ?_
              obtain ⟨h6, hF⟩ := gd_of hF
              refine xg_X10_182 S hW (Nat.lt_of_not_le h6) dX10_book_85 ?_
              obtain rfl := Option.some.inj hF
              exact xr_i S hr hlk hW rfl rfl dX10_book_88
            · have hF := it_neg hc4 hF
              rcases Classical.em (a2 = (5 : Int32)) with hc5 | hc5
              · have hF := it_pos hc5 hF
                refine lv_tableIn (off := 73) (tgt := 89) S.1 S.2.1 dX10_book_16 (by rw [hc5]; decide) (by rw [hc5]; decide) (by rw [hc5]; decide) (by decide) ?_
                refine lv_aload_n S.1 S.2.1 dX10_book_89 rfl (lv_at hl 0 rfl) ?_
                obtain ⟨h7, hF⟩ := gd_of hF
                refine xg_X10_185 S hW (Nat.lt_of_not_le h7) dX10_book_90 ?_
                obtain rfl := Option.some.inj hF
                exact xr_i S hr hlk hW rfl rfl dX10_book_93
              · have hF := it_neg hc5 hF
                rcases Classical.em (a2 = (6 : Int32)) with hc6 | hc6
                · have hF := it_pos hc6 hF
                  refine lv_tableIn (off := 78) (tgt := 94) S.1 S.2.1 dX10_book_16 (by rw [hc6]; decide) (by rw [hc6]; decide) (by rw [hc6]; decide) (by decide) ?_
                  refine lv_aload_n S.1 S.2.1 dX10_book_94 rfl (lv_at hl 0 rfl) ?_
                  obtain ⟨h8, hF⟩ := gd_of hF
                  refine xg_X10_188 S hW (Nat.lt_of_not_le h8) dX10_book_95 ?_
                  obtain rfl := Option.some.inj hF
                  exact xr_i S hr hlk hW rfl rfl dX10_book_98
                · have hF := it_neg hc6 hF
                  rcases Classical.em (a2 = (7 : Int32)) with hc7 | hc7
                  · have hF := it_pos hc7 hF
                    refine lv_tableIn (off := 83) (tgt := 99) S.1 S.2.1 dX10_book_16 (by rw [hc7]; decide) (by rw [hc7]; decide) (by rw [hc7]; decide) (by decide) ?_
                    refine lv_aload_n S.1 S.2.1 dX10_book_99 rfl (lv_at hl 0 rfl) ?_
                    obtain ⟨h9, hF⟩ := gd_of hF
                    refine xg_X10_191 S hW (Nat.lt_of_not_le h9) dX10_book_100 ?_
                    obtain rfl := Option.some.inj hF
                    exact xr_i S hr hlk hW rfl rfl dX10_book_103
                  · have hF := it_neg hc7 hF
                    have n0 := sw_ne hc0
                    have n1 := sw_ne hc1
                    have n2 := sw_ne hc2
                    have n3 := sw_ne hc3
                    have n4 := sw_ne hc4
                    have n5 := sw_ne hc5
                    have n6 := sw_ne hc6
                    have n7 := sw_ne hc7
                    refine lv_tableOut (tgt := 104) S.1 S.2.1 dX10_book_16 (by simp only [tI_0, tI_1, tI_2, tI_3, tI_4, tI_5, tI_6, tI_7] at n0 n1 n2 n3 n4 n5 n6 n7; omega) (by decide) ?_
                    refine lv_iconst (v := (-1 : Int32)) S.1 S.2.1 dX10_book_104 (by decide) ?_
                    obtain rfl := Option.some.inj hF
                    exact xr_i S hr hlk hW rfl rfl dX10_book_105
def fC_Cl_membersIn_L4 (σ : SC) (l1 : Int32) : Nat → Int32 → Int32 → Option (Int32)
  | 0, _, _ => none
  | n + 1, x2, x3 =>
    if (nI (xn σ 0)) ≤ x3 then
    some ((x2))
    else
    if x3 < 0 ∨ xn σ 0 ≤ (x3).toNatClampNeg then none else
    Option.bind (if (xm σ 3 ((x3).toNatClampNeg)) = l1 then
    some ((x2 + (1 : Int32)))
    else
    some (x2)) (fun u2 =>
    fC_Cl_membersIn_L4 σ l1 n u2 ((x3 + (1 : Int32))))
def fC_Cl_membersIn (σ : SC) (a1 : Int32) : Option (Int32) :=
  Option.bind (fC_Cl_membersIn_L4 σ a1 1000 ((0 : Int32)) ((0 : Int32))) (fun u1 =>
  some u1)
set_option maxRecDepth 100000 in
set_option maxHeartbeats 4000000 in
theorem cC_Cl_membersIn (l : Launch) (D : va_G) (ad : Nat → Nat) (cA : Nat → ClassId) (kk : Nat → Nat) (A : Nat → Prop) (aM aC aE : Nat → Nat) (X : va_W) {σ : SC} {a1 : Int32} {o : Int32} (hF : fC_Cl_membersIn σ a1 = some o) : Mi l yX2_membersIn cX2_membersIn 4 .int { frames := 3, cells := 0, slots := 0, locals := 64 } [.ref (ad 8), .int a1] (CP D ad cA kk A aM aC aE X σ) o (CP D ad cA kk A aM aC aE X σ) A := by
  refine Mi.of (own := RX2) rfl (by decide +kernel) (Nat.le_of_ble_eq_true rfl) ?_
  intro p e s m args below meth c ls S hr hlk hP hl
  have hW := CW.start hP
  have hl : lv_has ls 4 [(0, .ref (ad 8)), (1, .int a1)] := hl
  rw [fC_Cl_membersIn] at hF
  refine lv_iconst (v := (0 : Int32)) S.1 S.2.1 dX2_membersIn_0 (by decide) ?_
  refine lv_istore_n (lv' := [(2, .int ((0 : Int32))), (0, .ref (ad 8)), (1, .int a1)]) S.1 S.2.1 dX2_membersIn_1 rfl hl (by decide) rfl (fun ls hl => ?_)
  refine lv_iconst (v := (0 : Int32)) S.1 S.2.1 dX2_membersIn_2 (by decide) ?_
  refine lv_istore_n (lv' := [(3, .int ((0 : Int32))), (2, .int ((0 : Int32))), (0, .ref (ad 8)), (1, .int a1)]) S.1 S.2.1 dX2_membersIn_3 rfl hl (by decide) rfl (fun ls hl => ?_)
  obtain ⟨u1, hX, hF⟩ := bd_of hF
  refine jn1 (fun H locs ls => lv_has ls 4 [(2, .int u1)] ∧ CW D ad cA kk A aM aC aE X σ s H locs) 42 [] (fun H locs ls hJ => ?_) (fun Ju1 => ?_)
  · obtain ⟨hl, hW⟩ := hJ
    refine lv_iload_n S.1 S.2.1 dX2_membersIn_42 rfl (lv_at hl 0 rfl) ?_
    obtain rfl := Option.some.inj hF
    exact xr_i S hr hlk hW rfl rfl dX2_membersIn_43
  · refine lpW (fun (xu1 : Int32 × Int32) H locs ls => lv_has ls 4 [(0, .ref (ad 8)), (1, .int a1), (2, .int xu1.1), (3, .int xu1.2)] ∧ CW D ad cA kk A aM aC aE X σ s H locs) 4 (fun n xu1 => fC_Cl_membersIn_L4 σ a1 n xu1.1 xu1.2) u1 (fun _ => rfl) (fun n xu1 ihu1 hF H locs ls hJ => ?_) 1000 ((0 : Int32), (0 : Int32)) hX _ _ _ ⟨lv_sub hl [2, 3, 1, 0] rfl, hW⟩
    obtain ⟨hl, hW⟩ := hJ
    have hF : fC_Cl_membersIn_L4 σ a1 (n + 1) xu1.1 xu1.2 = some u1 := hF
    rw [fC_Cl_membersIn_L4] at hF
    refine lv_iload_n S.1 S.2.1 dX2_membersIn_4 rfl (lv_at hl 3 rfl) ?_
    refine lv_aload_n S.1 S.2.1 dX2_membersIn_5 rfl (lv_at hl 0 rfl) ?_
    refine xg_X2_32 S hW dX2_membersIn_6 ?_
    refine xsz_0 S hW (gd_V m_516 m_517 m_518 m_72 m_519) ⟨Nat.le_of_ble_eq_true rfl, Nat.le_of_ble_eq_true rfl⟩ hl.1 (Nat.le_of_ble_eq_true rfl) ⟨Nat.le_of_ble_eq_true rfl, Nat.le_of_ble_eq_true rfl⟩ dX2_membersIn_9 ?_
    refine lv_icmp_ge (tgt := 42) S.1 S.2.1 dX2_membersIn_12 (by decide) (fun hc => ?_) (fun hc => ?_)
    · have hF := it_pos hc hF
      obtain rfl := Option.some.inj hF
      exact Ju1 _ _ _ ⟨lv_sub hl [2] rfl, hW⟩
    · have hF := it_neg hc hF
      refine lv_aload_n S.1 S.2.1 dX2_membersIn_15 rfl (lv_at hl 0 rfl) ?_
      refine xg_X2_32 S hW dX2_membersIn_16 ?_
      refine lv_iload_n S.1 S.2.1 dX2_membersIn_19 rfl (lv_at hl 3 rfl) ?_
      obtain ⟨h3, hF⟩ := gd_of hF
      refine xgt_0 h3 S hW (gd_V m_579 m_580 m_581 m_72 m_582) ⟨Nat.le_of_ble_eq_true rfl, Nat.le_of_ble_eq_true rfl⟩ hl.1 (Nat.le_of_ble_eq_true rfl) ⟨Nat.le_of_ble_eq_true rfl, Nat.le_of_ble_eq_true rfl⟩ dX2_membersIn_20 ?_
      refine xcast_M S hW (Nat.lt_of_not_le (fun q => h3 (Or.inr q))) m_510 dX2_membersIn_23 ?_
      refine xg_X2_75 S hW (Nat.lt_of_not_le (fun q => h3 (Or.inr q))) dX2_membersIn_26 ?_
      refine lv_iload_n S.1 S.2.1 dX2_membersIn_29 rfl (lv_at hl 1 rfl) ?_
      obtain ⟨u4, hX, hF⟩ := bd_of hF
      refine jn1 (fun H locs ls => lv_has ls 4 [(0, .ref (ad 8)), (1, .int a1), (2, .int u4), (3, .int xu1.2)] ∧ CW D ad cA kk A aM aC aE X σ s H locs) 36 [] (fun H locs ls hJ => ?_) (fun Ju4 => ?_)
      · obtain ⟨hl, hW⟩ := hJ
        refine lv_iinc (v := (xu1.2 + (1 : Int32))) (lv' := [(3, .int ((xu1.2 + (1 : Int32)))), (0, .ref (ad 8)), (1, .int a1), (2, .int u4)]) S.1 S.2.1 dX2_membersIn_36 hl (k := 3) rfl rfl (by decide) rfl (fun ls hl => ?_)
        refine lv_goto (tgt := 4) S.1 S.2.1 dX2_membersIn_39 (by decide) ?_
        exact ihu1 (u4, (xu1.2 + (1 : Int32))) hF _ _ _ ⟨lv_sub hl [1, 2, 3, 0] rfl, hW⟩
      · have hF := hX
        refine lv_icmp_ne (tgt := 36) S.1 S.2.1 dX2_membersIn_30 (by decide) (fun hc => ?_) (fun hc => ?_)
        · have hF := it_neg hc hF
          obtain rfl := Option.some.inj hF
          exact Ju4 _ _ _ ⟨lv_sub hl [0, 1, 2, 3] rfl, hW⟩
        · have hF := it_pos hc hF
          refine lv_iinc (v := (xu1.1 + (1 : Int32))) (lv' := [(2, .int ((xu1.1 + (1 : Int32)))), (0, .ref (ad 8)), (1, .int a1), (3, .int xu1.2)]) S.1 S.2.1 dX2_membersIn_33 hl (k := 2) rfl rfl (by decide) rfl (fun ls hl => ?_)
          obtain rfl := Option.some.inj hF
          exact Ju4 _ _ _ ⟨lv_sub hl [1, 2, 0, 3] rfl, hW⟩
def fC_Le_size (σ : SC) : Option (Int32) :=
  some ((nI (xn σ 2)))
set_option maxRecDepth 100000 in
set_option maxHeartbeats 4000000 in
theorem cC_Le_size (l : Launch) (D : va_G) (ad : Nat → Nat) (cA : Nat → ClassId) (kk : Nat → Nat) (A : Nat → Prop) (aM aC aE : Nat → Nat) (X : va_W) {σ : SC} {o : Int32} (hF : fC_Le_size σ = some o) : Mi l yX5_size cX5_size 1 .int { frames := 1, cells := 0, slots := 0, locals := 20 } [.ref (ad 13)] (CP D ad cA kk A aM aC aE X σ) o (CP D ad cA kk A aM aC aE X σ) A := by
  refine Mi.of (own := RX5) rfl (by decide +kernel) (Nat.le_of_ble_eq_true rfl) ?_
  intro p e s m args below meth c ls S hr hlk hP hl
  have hW := CW.start hP
  have hl : lv_has ls 1 [(0, .ref (ad 13))] := hl
  rw [fC_Le_size] at hF
  refine lv_aload_n S.1 S.2.1 dX5_size_0 rfl (lv_at hl 0 rfl) ?_
  refine xg_X5_10 S hW dX5_size_1 ?_
  refine xsz_2 S hW (gd_V m_529 m_517 m_518 m_72 m_519) ⟨Nat.le_of_ble_eq_true rfl, Nat.le_of_ble_eq_true rfl⟩ hl.1 (Nat.le_of_ble_eq_true rfl) ⟨Nat.le_of_ble_eq_true rfl, Nat.le_of_ble_eq_true rfl⟩ dX5_size_4 ?_
  obtain rfl := Option.some.inj hF
  exact xr_i S hr hlk hW rfl rfl dX5_size_7
def fC_Le_find (σ : SC) (a1 : Int32) : Option (Option Nat) :=
  Option.bind (fC_isWithin a1 ((0 : Int32)) (((nI (xn σ 2)) - (1 : Int32)))) (fun u1 =>
  if u1 = 0 then
  some none
  else
  if a1 < 0 ∨ xn σ 2 ≤ (a1).toNatClampNeg then none else
  some (some ((a1).toNatClampNeg)))
set_option maxRecDepth 100000 in
set_option maxHeartbeats 4000000 in
theorem cC_Le_find (l : Launch) (D : va_G) (ad : Nat → Nat) (cA : Nat → ClassId) (kk : Nat → Nat) (A : Nat → Prop) (aM aC aE : Nat → Nat) (X : va_W) {σ : SC} {a1 : Int32} {o : Option Nat} (hF : fC_Le_find σ a1 = some o) : Mo l yX5_find cX5_find 2 (.object "BookClub$Entry") { frames := 3, cells := 0, slots := 0, locals := 64 } [.ref (ad 13), .int a1] (CP D ad cA kk A aM aC aE X σ) (Option.map aE o) (CP D ad cA kk A aM aC aE X σ) A := by
  refine Mo.of (own := RX5) rfl (by decide +kernel) (Nat.le_of_ble_eq_true rfl) ?_
  intro p e s m args below meth c ls S hr hlk hP hl
  have hW := CW.start hP
  have hl : lv_has ls 2 [(0, .ref (ad 13)), (1, .int a1)] := hl
  rw [fC_Le_find] at hF
  refine lv_iload_n S.1 S.2.1 dX5_find_0 rfl (lv_at hl 1 rfl) ?_
  refine lv_iconst (v := (0 : Int32)) S.1 S.2.1 dX5_find_1 (by decide) ?_
  refine lv_aload_n S.1 S.2.1 dX5_find_2 rfl (lv_at hl 0 rfl) ?_
  refine xg_X5_10 S hW dX5_find_3 ?_
  refine xsz_2 S hW (gd_V m_529 m_517 m_518 m_72 m_519) ⟨Nat.le_of_ble_eq_true rfl, Nat.le_of_ble_eq_true rfl⟩ hl.1 (Nat.le_of_ble_eq_true rfl) ⟨Nat.le_of_ble_eq_true rfl, Nat.le_of_ble_eq_true rfl⟩ dX5_find_6 ?_
  refine lv_iconst (v := (1 : Int32)) S.1 S.2.1 dX5_find_9 (by decide) ?_
  refine lv_isub S.1 S.2.1 dX5_find_10 ?_
  obtain ⟨u1, hu1, hF⟩ := bd_of hF
  refine sc_iN (k := 3) (As := [.int a1, .int ((0 : Int32)), .int (((nI (xn σ 2)) - (1 : Int32)))]) (rest := []) (cC_isWithin l hu1) S hW.2.1.2.2.1 nw_57 m_242 m_2 m_243 rfl rfl (by decide +kernel) ⟨Nat.le_of_ble_eq_true rfl, Nat.le_of_ble_eq_true rfl⟩ rfl hl.1 rfl (Nat.le_of_ble_eq_true rfl) ⟨Nat.le_of_ble_eq_true rfl, Nat.le_of_ble_eq_true rfl⟩ dX5_find_11 ?_
  refine lv_if_eq (tgt := 31) S.1 S.2.1 dX5_find_14 (by decide) (fun hc => ?_) (fun hc => ?_)
  · have hF := it_pos hc hF
    refine lv_null S.1 S.2.1 dX5_find_31 ?_
    obtain rfl := Option.some.inj hF
    exact xr_o (v := none) S hr (Or.inl ⟨_, rfl⟩) hlk hW rfl dX5_find_32
  · have hF := it_neg hc hF
    refine lv_aload_n S.1 S.2.1 dX5_find_17 rfl (lv_at hl 0 rfl) ?_
    refine xg_X5_10 S hW dX5_find_18 ?_
    refine lv_iload_n S.1 S.2.1 dX5_find_21 rfl (lv_at hl 1 rfl) ?_
    obtain ⟨h2, hF⟩ := gd_of hF
    refine xgt_2 h2 S hW (gd_V m_835 m_580 m_581 m_72 m_582) ⟨Nat.le_of_ble_eq_true rfl, Nat.le_of_ble_eq_true rfl⟩ hl.1 (Nat.le_of_ble_eq_true rfl) ⟨Nat.le_of_ble_eq_true rfl, Nat.le_of_ble_eq_true rfl⟩ dX5_find_22 ?_
    refine xcast_E S hW (Nat.lt_of_not_le (fun q => h2 (Or.inr q))) m_546 dX5_find_25 ?_
    refine lv_goto (tgt := 32) S.1 S.2.1 dX5_find_28 (by decide) ?_
    obtain rfl := Option.some.inj hF
    exact xr_o (v := some (aE ((a1).toNatClampNeg))) S hr (Or.inl ⟨_, rfl⟩) hlk hW rfl dX5_find_32
