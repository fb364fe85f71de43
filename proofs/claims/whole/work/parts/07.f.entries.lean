
theorem nC_Co_putBack {σ : SC} {a0 : Nat} {u : SC} (h : fC_Co_putBack σ a0 = some u) (j : Nat) : xn u j = xn σ j := by
  unfold fC_Co_putBack at h
  repeat (first | (obtain rfl := Option.some.inj h; rfl) | (obtain ⟨-, h⟩ := gd_of h))
theorem nC_Co_takeOut {σ : SC} {a0 : Nat} {u : SC} (h : fC_Co_takeOut σ a0 = some u) (j : Nat) : xn u j = xn σ j := by
  unfold fC_Co_takeOut at h
  repeat (first | (obtain rfl := Option.some.inj h; rfl) | (obtain ⟨-, h⟩ := gd_of h))
theorem nC_Me_forgetLatestChoice {σ : SC} {a0 : Nat} {u : SC} (h : fC_Me_forgetLatestChoice σ a0 = some u) (j : Nat) : xn u j = xn σ j := by
  unfold fC_Me_forgetLatestChoice at h
  repeat (first | (obtain rfl := Option.some.inj h; rfl) | (obtain ⟨-, h⟩ := gd_of h))
theorem nC_Me_owesNoLonger {σ : SC} {a0 : Nat} {u : SC} (h : fC_Me_owesNoLonger σ a0 = some u) (j : Nat) : xn u j = xn σ j := by
  unfold fC_Me_owesNoLonger at h
  obtain ⟨-, h⟩ := gd_of h
  split at h <;> (obtain rfl := Option.some.inj h; rfl)
theorem nC_Cl_judgeDebt {σ : SC} {a1 : Option Nat} {a2 a3 a4 : Int32} {u : SC} (h : fC_Cl_judgeDebt σ a1 a2 a3 a4 = some u) (j : Nat) : xn u j = xn σ j := by
  unfold fC_Cl_judgeDebt at h
  rcases on_of h with ⟨-, h⟩ | ⟨i, -, h⟩
  · cases h
  · obtain ⟨-, h⟩ := gd_of h
    obtain ⟨u1, -, h⟩ := bd_of h
    obtain ⟨u3, h3, h⟩ := bd_of h
    have e3 : xn u3 j = xn σ j := by
      split at h3
      · obtain ⟨u4, h4, h3⟩ := bd_of h3
        obtain rfl := Option.some.inj h3
        exact nC_Me_owesNoLonger h4 j
      · obtain rfl := Option.some.inj h3
        rfl
    rw [← e3]
    repeat (first | (obtain rfl := Option.some.inj h; rfl) | (obtain ⟨-, h⟩ := gd_of h) | split at h)
theorem nC_Cl_judgeDebts_L {l1 l2 l3 : Int32} : ∀ (n : Nat) (x : Int32) (σ u : SC), fC_Cl_judgeDebts_L22 l1 l2 l3 n x σ = some u → ∀ j, xn u j = xn σ j := by
  intro n
  induction n with
  | zero => intro x σ u h; cases h
  | succ n ih =>
    intro x σ u h j
    rw [fC_Cl_judgeDebts_L22] at h
    split at h
    · obtain rfl := Option.some.inj h; rfl
    · obtain ⟨-, h⟩ := gd_of h
      obtain ⟨v, hv, h⟩ := bd_of h
      rw [ih _ _ _ h j]
      split at hv
      · obtain rfl := Option.some.inj hv; rfl
      · obtain ⟨w, hw, hv⟩ := bd_of hv
        obtain rfl := Option.some.inj hv
        exact nC_Cl_judgeDebt hw j
theorem nC_Cl_judgeDebts {σ u : SC} (h : fC_Cl_judgeDebts σ = some u) (j : Nat) : xn u j = xn σ j := by
  unfold fC_Cl_judgeDebts at h
  obtain ⟨_, -, h⟩ := bd_of h
  obtain ⟨_, -, h⟩ := bd_of h
  obtain ⟨_, -, h⟩ := bd_of h
  obtain ⟨v, hv, h⟩ := bd_of h
  obtain rfl := Option.some.inj h
  exact nC_Cl_judgeDebts_L _ _ _ _ hv j
def fC_Cl_write (σ : SC) (a1 : Nat) (a2 : Int32) (a3 : Int64) : Option (SC) :=
  Option.bind (fC_Le_write σ a1 ((xz σ 6)) a2 a3) (fun u1 =>
  some u1)
set_option maxRecDepth 100000 in
set_option maxHeartbeats 4000000 in
theorem cC_Cl_write (l : Launch) (D : va_G) (ad : Nat → Nat) (cA : Nat → ClassId) (kk : Nat → Nat) (A : Nat → Prop) (aM aC aE : Nat → Nat) (X : va_W) {σ : SC} {a1 : Nat} {a2 : Int32} {a3 : Int64} {o : SC} (hF : fC_Cl_write σ a1 a2 a3 = some o) : MvE (GE aM aC) l yX2_write cX2_write 5 8 216 [.ref (ad 8), .ref (aM a1), .int a2, .long a3] D ad cA kk A aM aC aE X σ o := by
  refine Mg.of (own := RX2) rfl (by decide +kernel) (Nat.le_of_ble_eq_true rfl) ?_
  intro p e s m args below meth c ls S hr hlk hP hl
  have hW := CW.start hP
  have hle : nn σ ≤ nn σ := Nat.le_refl _
  refine W.cs (cells' := cst σ σ) (slots' := sst σ σ) (cst_0 σ).symm (sst_0 σ).symm ?_
  have hl : lv_has ls 5 [(0, .ref (ad 8)), (1, .ref (aM a1)), (2, .int a2), (3, .long a3)] := hl
  rw [fC_Cl_write] at hF
  refine lv_aload_n S.1 S.2.1 dX2_write_0 rfl (lv_at hl 0 rfl) ?_
  refine xg_X2_42 S hW dX2_write_1 ?_
  refine lv_aload_n S.1 S.2.1 dX2_write_4 rfl (lv_at hl 1 rfl) ?_
  refine lv_aload_n S.1 S.2.1 dX2_write_5 rfl (lv_at hl 0 rfl) ?_
  refine xg_X2_57 S hW dX2_write_6 ?_
  refine lv_iload_n S.1 S.2.1 dX2_write_9 rfl (lv_at hl 2 rfl) ?_
  refine lv_lload_n S.1 S.2.1 dX2_write_10 rfl (lv_at hl 3 rfl) ?_
  obtain ⟨u1, hu1, hF⟩ := bd_of hF
  refine xe_v (k := 4) (As := [.ref (aM a1), .int ((xz σ 6)), .int a2, .long a3]) (rest := []) (cC_Le_write l D ad cA kk A aM aC aE X hu1) (xr_RX5 hW) S hle hW (gd_V m_542 m_543 m_544 m_77 m_545) (by decide +kernel) ⟨Nat.le_of_ble_eq_true rfl, Nat.le_of_ble_eq_true rfl⟩ rfl hl.1 rfl (Nat.le_of_ble_eq_true rfl) dX2_write_11 (fun aE H locs hW hle => ?_)
  obtain rfl := Option.some.inj hF
  exact er_v S hr hlk ⟨rfl, rfl⟩ hle hW dX2_write_14
def fC_Cl_receive (σ : SC) (a1 : Option Nat) (a2 : Int32) : Option (Int64 × SC) :=
  onull a1
  (some ((-1000000000 : Int64), σ))
  (fun ia1 =>
  Option.bind (fC_isWithin a2 ((1 : Int32)) ((100000 : Int32))) (fun u1 =>
  if u1 = 0 then
  some ((-1000000000 : Int64), σ)
  else
  Option.bind (fC_Le_roomLeft σ) (fun u2 =>
  if (1 : Int32) ≤ u2 then
  Option.bind (fC_Cl_write σ ia1 ((1 : Int32)) ((a2).toInt64)) (fun u3 =>
  Option.bind (fC_Cl_inForceNow u3 ((4 : Int32))) (fun u4 =>
  if xn u3 0 ≤ ia1 then none else
  Option.bind (fC_Me_owesMoreThan u3 ia1 u4) (fun u5 =>
  Option.bind (if u5 = 0 then
  Option.bind (fC_Me_owesNoLonger u3 ia1) (fun u8 =>
  some (u8))
  else
  some (u3)) (fun u7 =>
  if xn u7 0 ≤ ia1 then none else
  some ((xb u7 ia1), u7)))))
  else
  some ((-1000000000 : Int64), σ))))
set_option maxRecDepth 100000 in
set_option maxHeartbeats 4000000 in
theorem cC_Cl_receive (l : Launch) (D : va_G) (ad : Nat → Nat) (cA : Nat → ClassId) (kk : Nat → Nat) (A : Nat → Prop) (aM aC aE : Nat → Nat) (X : va_W) {σ : SC} {a1 : Option Nat} {a2 : Int32} {o : Int64 × SC} (hF : fC_Cl_receive σ a1 a2 = some o) : MlE (GE aM aC) l yX2_receive cX2_receive 3 9 240 [.ref (ad 8), va_rf (a1.map aM), .int a2] D ad cA kk A aM aC aE X σ o.1 o.2 := by
  rw [fC_Cl_receive] at hF
  rcases on_of hF with ⟨he, hF⟩ | ⟨ia1, he, hF⟩
  · subst he
    refine Mg.of (own := RX2) rfl (by decide +kernel) (Nat.le_of_ble_eq_true rfl) ?_
    intro p e s m args below meth c ls S hr hlk hP hl
    have hW := CW.start hP
    have hle : nn σ ≤ nn σ := Nat.le_refl _
    refine W.cs (cells' := cst σ σ) (slots' := sst σ σ) (cst_0 σ).symm (sst_0 σ).symm ?_
    have hl : lv_has ls 3 [(0, .ref (ad 8)), (1, .null), (2, .int a2)] := hl
    refine lv_aload_nN S.1 S.2.1 dX2_receive_0 rfl (lv_at hl 1 rfl) ?_
    refine lv_ifnullN (tgt := 25) S.1 S.2.1 dX2_receive_1 (by decide) ?_
    refine lv_ldc2 (v := (-1000000000 : Int64)) S.1 S.2.1 S.2.2.2.1 (S.2.2.2.2 _ m_613) dX2_receive_25 ?_
    obtain rfl := Option.some.inj hF
    exact er_l S hr hlk ⟨rfl, rfl⟩ hle hW rfl dX2_receive_28
  · subst he
    refine Mg.of (own := RX2) rfl (by decide +kernel) (Nat.le_of_ble_eq_true rfl) ?_
    intro p e s m args below meth c ls S hr hlk hP hl
    have hW := CW.start hP
    have hle : nn σ ≤ nn σ := Nat.le_refl _
    refine W.cs (cells' := cst σ σ) (slots' := sst σ σ) (cst_0 σ).symm (sst_0 σ).symm ?_
    have hl : lv_has ls 3 [(0, .ref (ad 8)), (1, .ref (aM ia1)), (2, .int a2)] := hl
    refine lv_aload_n S.1 S.2.1 dX2_receive_0 rfl (lv_at hl 1 rfl) ?_
    refine lv_ifnull S.1 S.2.1 dX2_receive_1 ?_
    refine lv_iload_n S.1 S.2.1 dX2_receive_4 rfl (lv_at hl 2 rfl) ?_
    refine lv_iconst (v := (1 : Int32)) S.1 S.2.1 dX2_receive_5 (by decide) ?_
    refine lv_ldc (v := (100000 : Int32)) S.1 S.2.1 S.2.2.2.1 (S.2.2.2.2 _ m_612) dX2_receive_6 ?_
    obtain ⟨u1, hu1, hF⟩ := bd_of hF
    refine sc_iN (k := 3) (As := [.int a2, .int ((1 : Int32)), .int ((100000 : Int32))]) (rest := []) (cC_isWithin l hu1) S hW.2.1.2.2.1 nw_23 m_242 m_2 m_243 rfl rfl (by decide +kernel) ⟨Nat.le_of_ble_eq_true rfl, Nat.le_of_ble_eq_true rfl⟩ rfl hl.1 rfl (Nat.le_of_ble_eq_true rfl) ⟨cs_c hle hW.2.2.1, cs_s hle hW.2.2.1⟩ dX2_receive_8 ?_
    refine lv_if_eq (tgt := 25) S.1 S.2.1 dX2_receive_11 (by decide) (fun hc => ?_) (fun hc => ?_)
    · have hF := it_pos hc hF
      refine lv_ldc2 (v := (-1000000000 : Int64)) S.1 S.2.1 S.2.2.2.1 (S.2.2.2.2 _ m_613) dX2_receive_25 ?_
      obtain rfl := Option.some.inj hF
      exact er_l S hr hlk ⟨rfl, rfl⟩ hle hW rfl dX2_receive_28
    · have hF := it_neg hc hF
      refine lv_aload_n S.1 S.2.1 dX2_receive_14 rfl (lv_at hl 0 rfl) ?_
      refine xg_X2_42 S hW dX2_receive_15 ?_
      obtain ⟨u2, hu2, hF⟩ := bd_of hF
      refine xc_i (k := 0) (As := []) (rest := []) (cC_Le_roomLeft l D ad cA kk A aM aC aE X hu2) (xr_RX5 hW) S hW (gd_V m_525 m_526 m_527 m_77 m_528) (by decide +kernel) ⟨Nat.le_of_ble_eq_true rfl, Nat.le_of_ble_eq_true rfl⟩ rfl hl.1 rfl (Nat.le_of_ble_eq_true rfl) ⟨cs_c hle hW.2.2.1, cs_s hle hW.2.2.1⟩ dX2_receive_18 (fun H locs hW => ?_)
      refine lv_iconst (v := (1 : Int32)) S.1 S.2.1 dX2_receive_21 (by decide) ?_
      refine lv_icmp_ge (tgt := 29) S.1 S.2.1 dX2_receive_22 (by decide) (fun hc => ?_) (fun hc => ?_)
      · have hF := it_pos hc hF
        refine lv_aload_n S.1 S.2.1 dX2_receive_29 rfl (lv_at hl 0 rfl) ?_
        refine lv_aload_n S.1 S.2.1 dX2_receive_30 rfl (lv_at hl 1 rfl) ?_
        refine lv_iconst (v := (1 : Int32)) S.1 S.2.1 dX2_receive_31 (by decide) ?_
        refine lv_iload_n S.1 S.2.1 dX2_receive_32 rfl (lv_at hl 2 rfl) ?_
        refine lv_i2l (v := (a2).toInt64) S.1 S.2.1 dX2_receive_33 rfl ?_
        obtain ⟨u3, hu3, hF⟩ := bd_of hF
        refine xe_v (k := 3) (As := [.ref (aM ia1), .int ((1 : Int32)), .long ((a2).toInt64)]) (rest := []) (cC_Cl_write l D ad cA kk A aM aC aE X hu3) (xr_RX2 hW) S hle hW (gd_V m_538 m_539 m_540 m_27 m_541) (by decide +kernel) ⟨Nat.le_of_ble_eq_true rfl, Nat.le_of_ble_eq_true rfl⟩ rfl hl.1 rfl (Nat.le_of_ble_eq_true rfl) dX2_receive_34 (fun aE H locs hW hle => ?_)
        refine lv_aload_n S.1 S.2.1 dX2_receive_37 rfl (lv_at hl 1 rfl) ?_
        refine lv_aload_n S.1 S.2.1 dX2_receive_38 rfl (lv_at hl 0 rfl) ?_
        refine lv_iconst (v := (4 : Int32)) S.1 S.2.1 dX2_receive_39 (by decide) ?_
        obtain ⟨u4, hu4, hF⟩ := bd_of hF
        refine xc_i (k := 1) (As := [.int ((4 : Int32))]) (rest := [.ref (aM ia1)]) (cC_Cl_inForceNow l D ad cA kk A aM aC aE X hu4) (xr_RX2 hW) S hW (gd_V m_520 m_521 m_522 m_27 m_523) (by decide +kernel) ⟨Nat.le_of_ble_eq_true rfl, Nat.le_of_ble_eq_true rfl⟩ rfl hl.1 rfl (Nat.le_of_ble_eq_true rfl) ⟨cs_c hle hW.2.2.1, cs_s hle hW.2.2.1⟩ dX2_receive_40 (fun H locs hW => ?_)
        obtain ⟨h6, hF⟩ := gd_of hF
        obtain ⟨u5, hu5, hF⟩ := bd_of hF
        refine xc_i (k := 1) (As := [.int u4]) (rest := []) (cC_Me_owesMoreThan l D ad cA kk A aM aC aE X hu5) (xr_M hW (Nat.lt_of_not_le h6)) S hW (gd_V m_614 m_615 m_616 m_512 m_617) (by decide +kernel) ⟨Nat.le_of_ble_eq_true rfl, Nat.le_of_ble_eq_true rfl⟩ rfl hl.1 rfl (Nat.le_of_ble_eq_true rfl) ⟨cs_c hle hW.2.2.1, cs_s hle hW.2.2.1⟩ dX2_receive_43 (fun H locs hW => ?_)
        obtain ⟨u7, hX, hF⟩ := bd_of hF
        refine jnE (cst σ u7) (sst σ u7) (fun H locs ls => lv_has ls 3 [(1, .ref (aM ia1))] ∧ EW D ad cA kk A aM aC X σ u7 s H locs) 53 [] (fun H locs ls hJ => ?_) (fun Ju7 => ?_)
        · obtain ⟨hl, hW⟩ := hJ
          obtain ⟨aE, hW, hle⟩ := hW
          refine lv_aload_n S.1 S.2.1 dX2_receive_53 rfl (lv_at hl 0 rfl) ?_
          obtain ⟨h9, hF⟩ := gd_of hF
          refine xg_X2_116 S hW (Nat.lt_of_not_le h9) dX2_receive_54 ?_
          obtain rfl := Option.some.inj hF
          exact er_l S hr hlk ⟨rfl, rfl⟩ hle hW rfl dX2_receive_57
        · have hF := hX
          refine lv_if_ne (tgt := 53) S.1 S.2.1 dX2_receive_46 (by decide) (fun hc => ?_) (fun hc => ?_)
          · have hF := it_neg hc hF
            obtain rfl := Option.some.inj hF
            exact Ju7 _ _ _ ⟨lv_sub hl [1] rfl, ⟨aE, hW, hle⟩⟩
          · have hF := it_pos hc hF
            refine lv_aload_n S.1 S.2.1 dX2_receive_49 rfl (lv_at hl 1 rfl) ?_
            obtain ⟨u8, hu8, hF⟩ := bd_of hF
            refine xc_v (k := 0) (As := []) (rest := []) (cC_Me_owesNoLonger l D ad cA kk A aM aC aE X hu8) (xr_M hW (Nat.lt_of_not_le h6)) S hW (gd_V m_619 m_620 m_621 m_512 m_622) (by decide +kernel) ⟨Nat.le_of_ble_eq_true rfl, Nat.le_of_ble_eq_true rfl⟩ rfl hl.1 rfl (Nat.le_of_ble_eq_true rfl) ⟨cs_c hle hW.2.2.1, cs_s hle hW.2.2.1⟩ dX2_receive_50 (fun H locs hW => ?_)
            have nu8 := nC_Me_owesNoLonger hu8
            obtain rfl := Option.some.inj hF
            have hq : nn u8 = nn u3 := by simp only [nn, xn_yz, xn_yf, xn_yg, xn_ym, xn_yb, xn_yc, xn_ye, nu8]
            have hle : nn σ ≤ nn u8 := hq ▸ hle
            refine W.cs (cells' := cst σ u8) (slots' := sst σ u8) (cst_eq hq) (sst_eq hq) ?_
            exact Ju7 _ _ _ ⟨lv_sub hl [1] rfl, ⟨aE, hW, hle⟩⟩
      · have hF := it_neg hc hF
        refine lv_ldc2 (v := (-1000000000 : Int64)) S.1 S.2.1 S.2.2.2.1 (S.2.2.2.2 _ m_613) dX2_receive_25 ?_
        obtain rfl := Option.some.inj hF
        exact er_l S hr hlk ⟨rfl, rfl⟩ hle hW rfl dX2_receive_28
def fC_Cl_dismiss (σ : SC) (a1 : Option Nat) : Option (Int64 × SC) :=
  onull a1
  (some ((-1 : Int64), σ))
  (fun ia1 =>
  if xn σ 0 ≤ ia1 then none else
  if (xm σ 3 ia1) = (2 : Int32) then
  some ((-1 : Int64), σ)
  else
  Option.bind (if (lg_cmp (xb σ ia1) (0 : Int64)) ≤ 0 then
  some ((0 : Int64))
  else
  some ((xb σ ia1))) (fun u2 =>
  if (lg_cmp u2 (0 : Int64)) ≤ 0 then
  Option.bind (fC_Cl_write (ym σ 3 ia1 ((2 : Int32))) ia1 ((6 : Int32)) ((-u2))) (fun u3 =>
  some (u2, u3))
  else
  Option.bind (fC_Le_roomLeft σ) (fun u4 =>
  if (1 : Int32) ≤ u4 then
  Option.bind (fC_Cl_write (ym σ 3 ia1 ((2 : Int32))) ia1 ((6 : Int32)) ((-u2))) (fun u5 =>
  some (u2, u5))
  else
  some ((-1 : Int64), σ))))
set_option maxRecDepth 100000 in
set_option maxHeartbeats 4000000 in
theorem cC_Cl_dismiss (l : Launch) (D : va_G) (ad : Nat → Nat) (cA : Nat → ClassId) (kk : Nat → Nat) (A : Nat → Prop) (aM aC aE : Nat → Nat) (X : va_W) {σ : SC} {a1 : Option Nat} {o : Int64 × SC} (hF : fC_Cl_dismiss σ a1 = some o) : MlE (GE aM aC) l yX2_dismiss cX2_dismiss 4 9 240 [.ref (ad 8), va_rf (a1.map aM)] D ad cA kk A aM aC aE X σ o.1 o.2 := by
  rw [fC_Cl_dismiss] at hF
  rcases on_of hF with ⟨he, hF⟩ | ⟨ia1, he, hF⟩
  · subst he
    refine Mg.of (own := RX2) rfl (by decide +kernel) (Nat.le_of_ble_eq_true rfl) ?_
    intro p e s m args below meth c ls S hr hlk hP hl
    have hW := CW.start hP
    have hle : nn σ ≤ nn σ := Nat.le_refl _
    refine W.cs (cells' := cst σ σ) (slots' := sst σ σ) (cst_0 σ).symm (sst_0 σ).symm ?_
    have hl : lv_has ls 4 [(0, .ref (ad 8)), (1, .null)] := hl
    refine lv_aload_nN S.1 S.2.1 dX2_dismiss_0 rfl (lv_at hl 1 rfl) ?_
    refine lv_ifnullN (tgt := 12) S.1 S.2.1 dX2_dismiss_1 (by decide) ?_
    refine lv_ldc2 (v := (-1 : Int64)) S.1 S.2.1 S.2.2.2.1 (S.2.2.2.2 _ m_645) dX2_dismiss_12 ?_
    obtain rfl := Option.some.inj hF
    exact er_l S hr hlk ⟨rfl, rfl⟩ hle hW rfl dX2_dismiss_15
  · subst he
    refine Mg.of (own := RX2) rfl (by decide +kernel) (Nat.le_of_ble_eq_true rfl) ?_
    intro p e s m args below meth c ls S hr hlk hP hl
    have hW := CW.start hP
    have hle : nn σ ≤ nn σ := Nat.le_refl _
    refine W.cs (cells' := cst σ σ) (slots' := sst σ σ) (cst_0 σ).symm (sst_0 σ).symm ?_
    have hl : lv_has ls 4 [(0, .ref (ad 8)), (1, .ref (aM ia1))] := hl
    refine lv_aload_n S.1 S.2.1 dX2_dismiss_0 rfl (lv_at hl 1 rfl) ?_
    refine lv_ifnull S.1 S.2.1 dX2_dismiss_1 ?_
    refine lv_aload_n S.1 S.2.1 dX2_dismiss_4 rfl (lv_at hl 1 rfl) ?_
    obtain ⟨h1, hF⟩ := gd_of hF
    refine xg_X2_75 S hW (Nat.lt_of_not_le h1) dX2_dismiss_5 ?_
    refine lv_iconst (v := (2 : Int32)) S.1 S.2.1 dX2_dismiss_8 (by decide) ?_
    refine lv_icmp_ne (tgt := 16) S.1 S.2.1 dX2_dismiss_9 (by decide) (fun hc => ?_) (fun hc => ?_)
    · have hF := it_neg hc hF
      refine lv_aload_n S.1 S.2.1 dX2_dismiss_16 rfl (lv_at hl 1 rfl) ?_
      refine xg_X2_116 S hW (Nat.lt_of_not_le h1) dX2_dismiss_17 ?_
      refine lv_lconst (v := (0 : Int64)) S.1 S.2.1 dX2_dismiss_20 (by decide) ?_
      refine W.lcmp S.1 S.2.1 dX2_dismiss_21 ?_
      obtain ⟨u2, hX, hF⟩ := bd_of hF
      refine jnE (cst σ σ) (sst σ σ) (fun H locs ls => lv_has ls 4 [(0, .ref (ad 8)), (1, .ref (aM ia1))] ∧ EW D ad cA kk A aM aC X σ σ s H locs) 33 [.long u2] (fun H locs ls hJ => ?_) (fun Ju2 => ?_)
      · obtain ⟨hl, hW⟩ := hJ
        obtain ⟨aE, hW, hle⟩ := hW
        refine lv_lstore_n (lv' := [(2, .long u2), (0, .ref (ad 8)), (1, .ref (aM ia1))]) S.1 S.2.1 dX2_dismiss_33 rfl hl (by decide) rfl (fun ls hl => ?_)
        refine lv_lload_n S.1 S.2.1 dX2_dismiss_34 rfl (lv_at hl 0 rfl) ?_
        refine lv_lconst (v := (0 : Int64)) S.1 S.2.1 dX2_dismiss_35 (by decide) ?_
        refine W.lcmp S.1 S.2.1 dX2_dismiss_36 ?_
        refine lv_if_le (tgt := 55) S.1 S.2.1 dX2_dismiss_37 (by decide) (fun hc => ?_) (fun hc => ?_)
        · have hF := it_pos hc hF
          refine lv_aload_n S.1 S.2.1 dX2_dismiss_55 rfl (lv_at hl 2 rfl) ?_
          refine lv_iconst (v := (2 : Int32)) S.1 S.2.1 dX2_dismiss_56 (by decide) ?_
          refine xp_X2_75 S hW (Nat.lt_of_not_le h1) dX2_dismiss_57 (fun H locs hW => ?_)
          refine lv_aload_n S.1 S.2.1 dX2_dismiss_60 rfl (lv_at hl 1 rfl) ?_
          refine lv_aload_n S.1 S.2.1 dX2_dismiss_61 rfl (lv_at hl 2 rfl) ?_
          refine lv_bipush (v := (6 : Int32)) S.1 S.2.1 dX2_dismiss_62 (by decide) ?_
          refine lv_lload_n S.1 S.2.1 dX2_dismiss_64 rfl (lv_at hl 0 rfl) ?_
          refine lv_lneg S.1 S.2.1 dX2_dismiss_65 ?_
          have hq : nn (ym σ 3 ia1 ((2 : Int32))) = nn σ := by simp only [nn, xn_yz, xn_yf, xn_yg, xn_ym, xn_yb, xn_yc, xn_ye]
          have hle : nn σ ≤ nn (ym σ 3 ia1 ((2 : Int32))) := hq ▸ hle
          refine W.cs (cells' := cst σ (ym σ 3 ia1 ((2 : Int32)))) (slots' := sst σ (ym σ 3 ia1 ((2 : Int32)))) (cst_eq hq) (sst_eq hq) ?_
          obtain ⟨u3, hu3, hF⟩ := bd_of hF
          refine xe_v (k := 3) (As := [.ref (aM ia1), .int ((6 : Int32)), .long ((-u2))]) (rest := []) (cC_Cl_write l D ad cA kk A aM aC aE X hu3) (xr_RX2 hW) S hle hW (gd_V m_538 m_539 m_540 m_27 m_541) (by decide +kernel) ⟨Nat.le_of_ble_eq_true rfl, Nat.le_of_ble_eq_true rfl⟩ rfl hl.1 rfl (Nat.le_of_ble_eq_true rfl) dX2_dismiss_66 (fun aE H locs hW hle => ?_)
          refine lv_lload_n S.1 S.2.1 dX2_dismiss_69 rfl (lv_at hl 0 rfl) ?_
          obtain rfl := Option.some.inj hF
          exact er_l S hr hlk ⟨rfl, rfl⟩ hle hW rfl dX2_dismiss_70
        · have hF := it_neg hc hF
          refine lv_aload_n S.1 S.2.1 dX2_dismiss_40 rfl (lv_at hl 1 rfl) ?_
          refine xg_X2_42 S hW dX2_dismiss_41 ?_
          obtain ⟨u4, hu4, hF⟩ := bd_of hF
          refine xc_i (k := 0) (As := []) (rest := []) (cC_Le_roomLeft l D ad cA kk A aM aC aE X hu4) (xr_RX5 hW) S hW (gd_V m_525 m_526 m_527 m_77 m_528) (by decide +kernel) ⟨Nat.le_of_ble_eq_true rfl, Nat.le_of_ble_eq_true rfl⟩ rfl hl.1 rfl (Nat.le_of_ble_eq_true rfl) ⟨cs_c hle hW.2.2.1, cs_s hle hW.2.2.1⟩ dX2_dismiss_44 (fun H locs hW => ?_)
          refine lv_iconst (v := (1 : Int32)) S.1 S.2.1 dX2_dismiss_47 (by decide) ?_
          refine lv_icmp_ge (tgt := 55) S.1 S.2.1 dX2_dismiss_48 (by decide) (fun hc => ?_) (fun hc => ?_)
          · have hF := it_pos hc hF
            refine lv_aload_n S.1 S.2.1 dX2_dismiss_55 rfl (lv_at hl 2 rfl) ?_
            refine lv_iconst (v := (2 : Int32)) S.1 S.2.1 dX2_dismiss_56 (by decide) ?_
            refine xp_X2_75 S hW (Nat.lt_of_not_le h1) dX2_dismiss_57 (fun H locs hW => ?_)
            refine lv_aload_n S.1 S.2.1 dX2_dismiss_60 rfl (lv_at hl 1 rfl) ?_
            refine lv_aload_n S.1 S.2.1 dX2_dismiss_61 rfl (lv_at hl 2 rfl) ?_
            refine lv_bipush (v := (6 : Int32)) S.1 S.2.1 dX2_dismiss_62 (by decide) ?_
            refine lv_lload_n S.1 S.2.1 dX2_dismiss_64 rfl (lv_at hl 0 rfl) ?_
            refine lv_lneg S.1 S.2.1 dX2_dismiss_65 ?_
            have hq : nn (ym σ 3 ia1 ((2 : Int32))) = nn σ := by simp only [nn, xn_yz, xn_yf, xn_yg, xn_ym, xn_yb, xn_yc, xn_ye]
            have hle : nn σ ≤ nn (ym σ 3 ia1 ((2 : Int32))) := hq ▸ hle
            refine W.cs (cells' := cst σ (ym σ 3 ia1 ((2 : Int32)))) (slots' := sst σ (ym σ 3 ia1 ((2 : Int32)))) (cst_eq hq) (sst_eq hq) ?_
            obtain ⟨u5, hu5, hF⟩ := bd_of hF
            refine xe_v (k := 3) (As := [.ref (aM ia1), .int ((6 : Int32)), .long ((-u2))]) (rest := []) (cC_Cl_write l D ad cA kk A aM aC aE X hu5) (xr_RX2 hW) S hle hW (gd_V m_538 m_539 m_540 m_27 m_541) (by decide +kernel) ⟨Nat.le_of_ble_eq_true rfl, Nat.le_of_ble_eq_true rfl⟩ rfl hl.1 rfl (Nat.le_of_ble_eq_true rfl) dX2_dismiss_66 (fun aE H locs hW hle => ?_)
            refine lv_lload_n S.1 S.2.1 dX2_dismiss_69 rfl (lv_at hl 0 rfl) ?_
            obtain rfl := Option.some.inj hF
            exact er_l S hr hlk ⟨rfl, rfl⟩ hle hW rfl dX2_dismiss_70
          · have hF := it_neg hc hF
            refine lv_ldc2 (v := (-1 : Int64)) S.1 S.2.1 S.2.2.2.1 (S.2.2.2.2 _ m_645) dX2_dismiss_51 ?_
            obtain rfl := Option.some.inj hF
            exact er_l S hr hlk ⟨rfl, rfl⟩ hle hW rfl dX2_dismiss_54
      · have hF := hX
        refine lv_if_le (tgt := 32) S.1 S.2.1 dX2_dismiss_22 (by decide) (fun hc => ?_) (fun hc => ?_)
        · have hF := it_pos hc hF
          refine lv_lconst (v := (0 : Int64)) S.1 S.2.1 dX2_dismiss_32 (by decide) ?_
          obtain rfl := Option.some.inj hF
          exact Ju2 _ _ _ ⟨lv_sub hl [0, 1] rfl, ⟨aE, hW, hle⟩⟩
        · have hF := it_neg hc hF
          refine lv_aload_n S.1 S.2.1 dX2_dismiss_25 rfl (lv_at hl 1 rfl) ?_
          refine xg_X2_116 S hW (Nat.lt_of_not_le h1) dX2_dismiss_26 ?_
          refine lv_goto (tgt := 33) S.1 S.2.1 dX2_dismiss_29 (by decide) ?_
          obtain rfl := Option.some.inj hF
          exact Ju2 _ _ _ ⟨lv_sub hl [0, 1] rfl, ⟨aE, hW, hle⟩⟩
    · have hF := it_pos hc hF
      refine lv_ldc2 (v := (-1 : Int64)) S.1 S.2.1 S.2.2.2.1 (S.2.2.2.2 _ m_645) dX2_dismiss_12 ?_
      obtain rfl := Option.some.inj hF
      exact er_l S hr hlk ⟨rfl, rfl⟩ hle hW rfl dX2_dismiss_15
def fC_Cl_sendTo (σ : SC) (a1 : Nat) (a2 : Int32) (a3 : Int32) : Option (SC) :=
  if xn σ 1 ≤ (xn σ 3) then none else
  if 0 < (xc σ 2 ((xn σ 3))) then
  Option.bind (fC_Co_takeOut σ ((xn σ 3))) (fun u2 =>
  if xn u2 0 ≤ a1 then none else
  Option.bind (if (xm (ym u2 8 a1 ((1 : Int32))) 7 a1) ≤ 0 then
  some ((0 : Int32))
  else
  some ((1 : Int32))) (fun u4 =>
  if u4 = 0 ∨ u4 = 1 then
  if xn u2 1 ≤ (xn (ym (ym (ym u2 8 a1 ((1 : Int32))) 10 a1 u4) 4 a1 (((xm (ym (ym u2 8 a1 ((1 : Int32))) 10 a1 u4) 4 a1) + (1 : Int32)))) 3) then none else
  Option.bind (fC_Cl_write (ym (ym (ym u2 8 a1 ((1 : Int32))) 10 a1 u4) 4 a1 (((xm (ym (ym u2 8 a1 ((1 : Int32))) 10 a1 u4) 4 a1) + (1 : Int32)))) a1 ((2 : Int32)) (((-(xc (ym (ym (ym u2 8 a1 ((1 : Int32))) 10 a1 u4) 4 a1 (((xm (ym (ym u2 8 a1 ((1 : Int32))) 10 a1 u4) 4 a1) + (1 : Int32)))) 0 ((xn (ym (ym (ym u2 8 a1 ((1 : Int32))) 10 a1 u4) 4 a1 (((xm (ym (ym u2 8 a1 ((1 : Int32))) 10 a1 u4) 4 a1) + (1 : Int32)))) 3))))).toInt64)) (fun u7 =>
  if a2 ≤ 0 then
  some u7
  else
  if xn u7 0 ≤ a1 then none else
  if a2 = 0 then none else
  if ((xm u7 4 a1) - (xm u7 4 a1) / a2 * a2) = 0 then
  Option.bind (fC_Cl_write u7 a1 ((5 : Int32)) ((a3).toInt64)) (fun u10 =>
  some u10)
  else
  some u7)
  else none))
  else
  if xn σ 0 ≤ a1 then none else
  some (ym (yc σ 7 ((xn σ 3)) (((xc σ 7 ((xn σ 3))) + (1 : Int32)))) 9 a1 ((1 : Int32)))
set_option maxRecDepth 100000 in
set_option maxHeartbeats 4000000 in
theorem cC_Cl_sendTo (l : Launch) (D : va_G) (ad : Nat → Nat) (cA : Nat → ClassId) (kk : Nat → Nat) (A : Nat → Prop) (aM aC aE : Nat → Nat) (X : va_W) {σ : SC} {a1 : Nat} {a2 : Int32} {a3 : Int32} {o : SC} (hF : fC_Cl_sendTo σ a1 a2 a3 = some o) : MvE (GE aM aC) l yX2_sendTo cX2_sendTo 4 9 240 [.ref (ad 8), .ref (aM a1), .int a2, .int a3] D ad cA kk A aM aC aE X σ o := by
  refine Mg.of (own := RX2) rfl (by decide +kernel) (Nat.le_of_ble_eq_true rfl) ?_
  intro p e s m args below meth c ls S hr hlk hP hl
  have hW := CW.start hP
  have hle : nn σ ≤ nn σ := Nat.le_refl _
  refine W.cs (cells' := cst σ σ) (slots' := sst σ σ) (cst_0 σ).symm (sst_0 σ).symm ?_
  have hl : lv_has ls 4 [(0, .ref (ad 8)), (1, .ref (aM a1)), (2, .int a2), (3, .int a3)] := hl
  rw [fC_Cl_sendTo] at hF
  refine lv_aload_n S.1 S.2.1 dX2_sendTo_0 rfl (lv_at hl 0 rfl) ?_
  refine xg_X2_49 S hW dX2_sendTo_1 ?_
  obtain ⟨h1, hF⟩ := gd_of hF
  refine xg_X2_174 S hW (Nat.lt_of_not_le h1) dX2_sendTo_4 ?_
  refine lv_if_gt (tgt := 29) S.1 S.2.1 dX2_sendTo_7 (by decide) (fun hc => ?_) (fun hc => ?_)
  · have hF := it_pos hc hF
    refine lv_aload_n S.1 S.2.1 dX2_sendTo_29 rfl (lv_at hl 0 rfl) ?_
    refine xg_X2_49 S hW dX2_sendTo_30 ?_
    obtain ⟨u2, hu2, hF⟩ := bd_of hF
    refine xc_v (k := 0) (As := []) (rest := []) (cC_Co_takeOut l D ad cA kk A aM aC aE X hu2) (xr_C hW (Nat.lt_of_not_le h1)) S hW (gd_V m_751 m_752 m_753 m_81 m_754) (by decide +kernel) ⟨Nat.le_of_ble_eq_true rfl, Nat.le_of_ble_eq_true rfl⟩ rfl hl.1 rfl (Nat.le_of_ble_eq_true rfl) ⟨cs_c hle hW.2.2.1, cs_s hle hW.2.2.1⟩ dX2_sendTo_33 (fun H locs hW => ?_)
    have nu2 := nC_Co_takeOut hu2
    refine lv_aload_n S.1 S.2.1 dX2_sendTo_36 rfl (lv_at hl 1 rfl) ?_
    refine lv_iconst (v := (1 : Int32)) S.1 S.2.1 dX2_sendTo_37 (by decide) ?_
    obtain ⟨h3, hF⟩ := gd_of hF
    refine xp_X2_186 S hW (Nat.lt_of_not_le h3) rfl rfl dX2_sendTo_38 (fun H locs hW => ?_)
    refine lv_aload_n S.1 S.2.1 dX2_sendTo_41 rfl (lv_at hl 1 rfl) ?_
    refine lv_aload_n S.1 S.2.1 dX2_sendTo_42 rfl (lv_at hl 1 rfl) ?_
    refine xg_X2_126 S hW (Nat.lt_of_not_le h3) dX2_sendTo_43 ?_
    obtain ⟨u4, hX, hF⟩ := bd_of hF
    refine jnE (cst σ (ym u2 8 a1 ((1 : Int32)))) (sst σ (ym u2 8 a1 ((1 : Int32)))) (fun H locs ls => lv_has ls 4 [(0, .ref (ad 8)), (1, .ref (aM a1)), (2, .int a2), (3, .int a3)] ∧ EW D ad cA kk A aM aC X σ (ym u2 8 a1 ((1 : Int32))) s H locs) 54 [.int u4, .ref (aM a1)] (fun H locs ls hJ => ?_) (fun Ju4 => ?_)
    · obtain ⟨hl, hW⟩ := hJ
      obtain ⟨aE, hW, hle⟩ := hW
      obtain ⟨h5, hF⟩ := gt_of hF
      refine xp_X2_154 S hW (Nat.lt_of_not_le h3) (bool_nar h5) (bool_fit h5) dX2_sendTo_54 (fun H locs hW => ?_)
      refine lv_aload_n S.1 S.2.1 dX2_sendTo_57 rfl (lv_at hl 1 rfl) ?_
      refine lv_dup S.1 S.2.1 dX2_sendTo_58 rfl ?_
      refine xg_X2_189 S hW (Nat.lt_of_not_le h3) dX2_sendTo_59 ?_
      refine lv_iconst (v := (1 : Int32)) S.1 S.2.1 dX2_sendTo_62 (by decide) ?_
      refine lv_iadd S.1 S.2.1 dX2_sendTo_63 ?_
      refine xp_X2_189 S hW (Nat.lt_of_not_le h3) dX2_sendTo_64 (fun H locs hW => ?_)
      refine lv_aload_n S.1 S.2.1 dX2_sendTo_67 rfl (lv_at hl 0 rfl) ?_
      refine lv_aload_n S.1 S.2.1 dX2_sendTo_68 rfl (lv_at hl 1 rfl) ?_
      refine lv_iconst (v := (2 : Int32)) S.1 S.2.1 dX2_sendTo_69 (by decide) ?_
      refine lv_aload_n S.1 S.2.1 dX2_sendTo_70 rfl (lv_at hl 0 rfl) ?_
      refine xg_X2_49 S hW dX2_sendTo_71 ?_
      obtain ⟨h6, hF⟩ := gd_of hF
      refine xg_X2_161 S hW (Nat.lt_of_not_le h6) dX2_sendTo_74 ?_
      refine lv_ineg S.1 S.2.1 dX2_sendTo_77 ?_
      refine lv_i2l (v := ((-(xc (ym (ym (ym u2 8 a1 ((1 : Int32))) 10 a1 u4) 4 a1 (((xm (ym (ym u2 8 a1 ((1 : Int32))) 10 a1 u4) 4 a1) + (1 : Int32)))) 0 ((xn (ym (ym (ym u2 8 a1 ((1 : Int32))) 10 a1 u4) 4 a1 (((xm (ym (ym u2 8 a1 ((1 : Int32))) 10 a1 u4) 4 a1) + (1 : Int32)))) 3))))).toInt64) S.1 S.2.1 dX2_sendTo_78 rfl ?_
      have hq : nn (ym (ym (ym u2 8 a1 ((1 : Int32))) 10 a1 u4) 4 a1 (((xm (ym (ym u2 8 a1 ((1 : Int32))) 10 a1 u4) 4 a1) + (1 : Int32)))) = nn (ym u2 8 a1 ((1 : Int32))) := by simp only [nn, xn_yz, xn_yf, xn_yg, xn_ym, xn_yb, xn_yc, xn_ye]
      have hle : nn σ ≤ nn (ym (ym (ym u2 8 a1 ((1 : Int32))) 10 a1 u4) 4 a1 (((xm (ym (ym u2 8 a1 ((1 : Int32))) 10 a1 u4) 4 a1) + (1 : Int32)))) := hq ▸ hle
      refine W.cs (cells' := cst σ (ym (ym (ym u2 8 a1 ((1 : Int32))) 10 a1 u4) 4 a1 (((xm (ym (ym u2 8 a1 ((1 : Int32))) 10 a1 u4) 4 a1) + (1 : Int32))))) (slots' := sst σ (ym (ym (ym u2 8 a1 ((1 : Int32))) 10 a1 u4) 4 a1 (((xm (ym (ym u2 8 a1 ((1 : Int32))) 10 a1 u4) 4 a1) + (1 : Int32))))) (cst_eq hq) (sst_eq hq) ?_
      obtain ⟨u7, hu7, hF⟩ := bd_of hF
      refine xe_v (k := 3) (As := [.ref (aM a1), .int ((2 : Int32)), .long (((-(xc (ym (ym (ym u2 8 a1 ((1 : Int32))) 10 a1 u4) 4 a1 (((xm (ym (ym u2 8 a1 ((1 : Int32))) 10 a1 u4) 4 a1) + (1 : Int32)))) 0 ((xn (ym (ym (ym u2 8 a1 ((1 : Int32))) 10 a1 u4) 4 a1 (((xm (ym (ym u2 8 a1 ((1 : Int32))) 10 a1 u4) 4 a1) + (1 : Int32)))) 3))))).toInt64)]) (rest := []) (cC_Cl_write l D ad cA kk A aM aC aE X hu7) (xr_RX2 hW) S hle hW (gd_V m_538 m_539 m_540 m_27 m_541) (by decide +kernel) ⟨Nat.le_of_ble_eq_true rfl, Nat.le_of_ble_eq_true rfl⟩ rfl hl.1 rfl (Nat.le_of_ble_eq_true rfl) dX2_sendTo_79 (fun aE H locs hW hle => ?_)
      refine lv_iload_n S.1 S.2.1 dX2_sendTo_82 rfl (lv_at hl 2 rfl) ?_
      refine lv_if_le (tgt := 103) S.1 S.2.1 dX2_sendTo_83 (by decide) (fun hc => ?_) (fun hc => ?_)
      · have hF := it_pos hc hF
        obtain rfl := Option.some.inj hF
        exact er_v S hr hlk ⟨rfl, rfl⟩ hle hW dX2_sendTo_103
      · have hF := it_neg hc hF
        refine lv_aload_n S.1 S.2.1 dX2_sendTo_86 rfl (lv_at hl 1 rfl) ?_
        obtain ⟨h8, hF⟩ := gd_of hF
        refine xg_X2_189 S hW (Nat.lt_of_not_le h8) dX2_sendTo_87 ?_
        refine lv_iload_n S.1 S.2.1 dX2_sendTo_90 rfl (lv_at hl 2 rfl) ?_
        obtain ⟨h9, hF⟩ := gd_of hF
        refine lv_irem S.1 S.2.1 dX2_sendTo_91 h9 ?_
        refine lv_if_ne (tgt := 103) S.1 S.2.1 dX2_sendTo_92 (by decide) (fun hc => ?_) (fun hc => ?_)
        · have hF := it_neg hc hF
          obtain rfl := Option.some.inj hF
          exact er_v S hr hlk ⟨rfl, rfl⟩ hle hW dX2_sendTo_103
        · have hF := it_pos hc hF
          refine lv_aload_n S.1 S.2.1 dX2_sendTo_95 rfl (lv_at hl 0 rfl) ?_
          refine lv_aload_n S.1 S.2.1 dX2_sendTo_96 rfl (lv_at hl 1 rfl) ?_
          refine lv_iconst (v := (5 : Int32)) S.1 S.2.1 dX2_sendTo_97 (by decide) ?_
          refine lv_iload_n S.1 S.2.1 dX2_sendTo_98 rfl (lv_at hl 3 rfl) ?_
          refine lv_i2l (v := (a3).toInt64) S.1 S.2.1 dX2_sendTo_99 rfl ?_
          obtain ⟨u10, hu10, hF⟩ := bd_of hF
          refine xe_v (k := 3) (As := [.ref (aM a1), .int ((5 : Int32)), .long ((a3).toInt64)]) (rest := []) (cC_Cl_write l D ad cA kk A aM aC aE X hu10) (xr_RX2 hW) S hle hW (gd_V m_538 m_539 m_540 m_27 m_541) (by decide +kernel) ⟨Nat.le_of_ble_eq_true rfl, Nat.le_of_ble_eq_true rfl⟩ rfl hl.1 rfl (Nat.le_of_ble_eq_true rfl) dX2_sendTo_100 (fun aE H locs hW hle => ?_)
          obtain rfl := Option.some.inj hF
          exact er_v S hr hlk ⟨rfl, rfl⟩ hle hW dX2_sendTo_103
    · have hF := hX
      refine lv_if_le (tgt := 53) S.1 S.2.1 dX2_sendTo_46 (by decide) (fun hc => ?_) (fun hc => ?_)
      · have hF := it_pos hc hF
        refine lv_iconst (v := (0 : Int32)) S.1 S.2.1 dX2_sendTo_53 (by decide) ?_
        obtain rfl := Option.some.inj hF
        have hq : nn (ym u2 8 a1 ((1 : Int32))) = nn σ := by simp only [nn, xn_yz, xn_yf, xn_yg, xn_ym, xn_yb, xn_yc, xn_ye, nu2]
        have hle : nn σ ≤ nn (ym u2 8 a1 ((1 : Int32))) := hq ▸ hle
        refine W.cs (cells' := cst σ (ym u2 8 a1 ((1 : Int32)))) (slots' := sst σ (ym u2 8 a1 ((1 : Int32)))) (cst_eq hq) (sst_eq hq) ?_
        exact Ju4 _ _ _ ⟨lv_sub hl [0, 1, 2, 3] rfl, ⟨aE, hW, hle⟩⟩
      · have hF := it_neg hc hF
        refine lv_iconst (v := (1 : Int32)) S.1 S.2.1 dX2_sendTo_49 (by decide) ?_
        refine lv_goto (tgt := 54) S.1 S.2.1 dX2_sendTo_50 (by decide) ?_
        obtain rfl := Option.some.inj hF
        have hq : nn (ym u2 8 a1 ((1 : Int32))) = nn σ := by simp only [nn, xn_yz, xn_yf, xn_yg, xn_ym, xn_yb, xn_yc, xn_ye, nu2]
        have hle : nn σ ≤ nn (ym u2 8 a1 ((1 : Int32))) := hq ▸ hle
        refine W.cs (cells' := cst σ (ym u2 8 a1 ((1 : Int32)))) (slots' := sst σ (ym u2 8 a1 ((1 : Int32)))) (cst_eq hq) (sst_eq hq) ?_
        exact Ju4 _ _ _ ⟨lv_sub hl [0, 1, 2, 3] rfl, ⟨aE, hW, hle⟩⟩
  · have hF := it_neg hc hF
    refine lv_aload_n S.1 S.2.1 dX2_sendTo_10 rfl (lv_at hl 0 rfl) ?_
    refine xg_X2_49 S hW dX2_sendTo_11 ?_
    refine lv_dup S.1 S.2.1 dX2_sendTo_14 rfl ?_
    refine xg_X2_177 S hW (Nat.lt_of_not_le h1) dX2_sendTo_15 ?_
    refine lv_iconst (v := (1 : Int32)) S.1 S.2.1 dX2_sendTo_18 (by decide) ?_
    refine lv_iadd S.1 S.2.1 dX2_sendTo_19 ?_
    refine xp_X2_177 S hW (Nat.lt_of_not_le h1) dX2_sendTo_20 (fun H locs hW => ?_)
    refine lv_aload_n S.1 S.2.1 dX2_sendTo_23 rfl (lv_at hl 1 rfl) ?_
    refine lv_iconst (v := (1 : Int32)) S.1 S.2.1 dX2_sendTo_24 (by decide) ?_
    obtain ⟨h11, hF⟩ := gd_of hF
    refine xp_X2_180 S hW (Nat.lt_of_not_le h11) rfl rfl dX2_sendTo_25 (fun H locs hW => ?_)
    obtain rfl := Option.some.inj hF
    have hq : nn (ym (yc σ 7 ((xn σ 3)) (((xc σ 7 ((xn σ 3))) + (1 : Int32)))) 9 a1 ((1 : Int32))) = nn σ := by simp only [nn, xn_yz, xn_yf, xn_yg, xn_ym, xn_yb, xn_yc, xn_ye]
    have hle : nn σ ≤ nn (ym (yc σ 7 ((xn σ 3)) (((xc σ 7 ((xn σ 3))) + (1 : Int32)))) 9 a1 ((1 : Int32))) := hq ▸ hle
    refine W.cs (cells' := cst σ (ym (yc σ 7 ((xn σ 3)) (((xc σ 7 ((xn σ 3))) + (1 : Int32)))) 9 a1 ((1 : Int32)))) (slots' := sst σ (ym (yc σ 7 ((xn σ 3)) (((xc σ 7 ((xn σ 3))) + (1 : Int32)))) 9 a1 ((1 : Int32)))) (cst_eq hq) (sst_eq hq) ?_
    exact er_v S hr hlk ⟨rfl, rfl⟩ hle hW dX2_sendTo_28
def fC_Cl_takeBackRefused_L28 (l1 : Nat) (l2 : Int32) : Nat → Int32 → SC → Option (SC)
  | 0, _, _ => none
  | n + 1, x3, σ =>
    if (nI (xn σ 0)) ≤ x3 then
    some ((σ))
    else
    if x3 < 0 ∨ xn σ 0 ≤ (x3).toNatClampNeg then none else
    Option.bind (if (xm σ 10 ((x3).toNatClampNeg)) = 0 then
    some (σ)
    else
    if xn σ 1 ≤ l1 then none else
    Option.bind (fC_Co_putBack σ l1) (fun u3 =>
    if xn u3 1 ≤ l1 then none else
    Option.bind (fC_Cl_write u3 ((x3).toNatClampNeg) ((3 : Int32)) (((xc u3 0 l1)).toInt64)) (fun u6 =>
    Option.bind (fC_Cl_write u6 ((x3).toNatClampNeg) ((4 : Int32)) (((-l2)).toInt64)) (fun u7 =>
    some (u7))))) (fun u2 =>
    fC_Cl_takeBackRefused_L28 l1 l2 n ((x3 + (1 : Int32))) u2)
def fC_Cl_takeBackRefused (σ : SC) : Option (SC) :=
  Option.bind (fC_Cl_findChoice σ (((xz σ 6) - (1 : Int32)))) (fun u1 =>
  onull u1
  (some σ)
  (fun iu1 =>
  Option.bind (fC_Cl_inForceNow σ ((1 : Int32))) (fun u2 =>
  if xn σ 1 ≤ iu1 then none else
  Option.bind (fC_Co_percentOfPrice σ iu1 u2) (fun u3 =>
  Option.bind (fC_Cl_takeBackRefused_L28 iu1 u3 1000 ((0 : Int32)) σ) (fun u5 =>
  some u5)))))
set_option maxRecDepth 100000 in
set_option maxHeartbeats 4000000 in
theorem cC_Cl_takeBackRefused (l : Launch) (D : va_G) (ad : Nat → Nat) (cA : Nat → ClassId) (kk : Nat → Nat) (A : Nat → Prop) (aM aC aE : Nat → Nat) (X : va_W) {σ : SC} {o : SC} (hF : fC_Cl_takeBackRefused σ = some o) : MvE (GE aM aC) l yX2_takeBackRefused cX2_takeBackRefused 5 9 240 [.ref (ad 8)] D ad cA kk A aM aC aE X σ o := by
  refine Mg.of (own := RX2) rfl (by decide +kernel) (Nat.le_of_ble_eq_true rfl) ?_
  intro p e s m args below meth c ls S hr hlk hP hl
  have hW := CW.start hP
  have hle : nn σ ≤ nn σ := Nat.le_refl _
  refine W.cs (cells' := cst σ σ) (slots' := sst σ σ) (cst_0 σ).symm (sst_0 σ).symm ?_
  have hl : lv_has ls 5 [(0, .ref (ad 8))] := hl
  rw [fC_Cl_takeBackRefused] at hF
  refine lv_aload_n S.1 S.2.1 dX2_takeBackRefused_0 rfl (lv_at hl 0 rfl) ?_
  refine lv_aload_n S.1 S.2.1 dX2_takeBackRefused_1 rfl (lv_at hl 0 rfl) ?_
  refine xg_X2_57 S hW dX2_takeBackRefused_2 ?_
  refine lv_iconst (v := (1 : Int32)) S.1 S.2.1 dX2_takeBackRefused_5 (by decide) ?_
  refine lv_isub S.1 S.2.1 dX2_takeBackRefused_6 ?_
  obtain ⟨u1, hu1, hF⟩ := bd_of hF
  refine xc_o (k := 1) (As := [.int (((xz σ 6) - (1 : Int32)))]) (rest := []) (cC_Cl_findChoice l D ad cA kk A aM aC aE X hu1) (xr_RX2 hW) S hW (gd_V m_717 m_718 m_719 m_27 m_720) (by decide +kernel) ⟨Nat.le_of_ble_eq_true rfl, Nat.le_of_ble_eq_true rfl⟩ rfl hl.1 rfl (Nat.le_of_ble_eq_true rfl) ⟨cs_c hle hW.2.2.1, cs_s hle hW.2.2.1⟩ dX2_takeBackRefused_7 (fun H locs hW => ?_)
  rcases on_of hF with ⟨he, hF⟩ | ⟨iu1, he, hF⟩
  · refine W.eq (g2 := F0 m 10 ls (.null :: [])) (by rw [he]; rfl) ?_
    refine lv_astore_nN (lv' := [(1, .null), (0, .ref (ad 8))]) S.1 S.2.1 dX2_takeBackRefused_10 rfl hl (by decide) rfl (fun ls hl => ?_)
    refine lv_aload_nN S.1 S.2.1 dX2_takeBackRefused_11 rfl (lv_at hl 0 rfl) ?_
    refine lv_ifnonnullN S.1 S.2.1 dX2_takeBackRefused_12 ?_
    obtain rfl := Option.some.inj hF
    exact er_v S hr hlk ⟨rfl, rfl⟩ hle hW dX2_takeBackRefused_15
  · refine W.eq (g2 := F0 m 10 ls (.ref (aC iu1) :: [])) (by rw [he]; rfl) ?_
    refine lv_astore_n (lv' := [(1, .ref (aC iu1)), (0, .ref (ad 8))]) S.1 S.2.1 dX2_takeBackRefused_10 rfl hl (by decide) rfl (fun ls hl => ?_)
    refine lv_aload_n S.1 S.2.1 dX2_takeBackRefused_11 rfl (lv_at hl 0 rfl) ?_
    refine lv_ifnonnull (tgt := 16) S.1 S.2.1 dX2_takeBackRefused_12 (by decide) ?_
    refine lv_aload_n S.1 S.2.1 dX2_takeBackRefused_16 rfl (lv_at hl 0 rfl) ?_
    refine lv_aload_n S.1 S.2.1 dX2_takeBackRefused_17 rfl (lv_at hl 1 rfl) ?_
    refine lv_iconst (v := (1 : Int32)) S.1 S.2.1 dX2_takeBackRefused_18 (by decide) ?_
    obtain ⟨u2, hu2, hF⟩ := bd_of hF
    refine xc_i (k := 1) (As := [.int ((1 : Int32))]) (rest := [.ref (aC iu1)]) (cC_Cl_inForceNow l D ad cA kk A aM aC aE X hu2) (xr_RX2 hW) S hW (gd_V m_520 m_521 m_522 m_27 m_523) (by decide +kernel) ⟨Nat.le_of_ble_eq_true rfl, Nat.le_of_ble_eq_true rfl⟩ rfl hl.1 rfl (Nat.le_of_ble_eq_true rfl) ⟨cs_c hle hW.2.2.1, cs_s hle hW.2.2.1⟩ dX2_takeBackRefused_19 (fun H locs hW => ?_)
    obtain ⟨h4, hF⟩ := gd_of hF
    obtain ⟨u3, hu3, hF⟩ := bd_of hF
    refine xc_i (k := 1) (As := [.int u2]) (rest := []) (cC_Co_percentOfPrice l D ad cA kk A aM aC aE X hu3) (xr_C hW (Nat.lt_of_not_le h4)) S hW (gd_V m_722 m_723 m_724 m_81 m_725) (by decide +kernel) ⟨Nat.le_of_ble_eq_true rfl, Nat.le_of_ble_eq_true rfl⟩ rfl hl.1 rfl (Nat.le_of_ble_eq_true rfl) ⟨cs_c hle hW.2.2.1, cs_s hle hW.2.2.1⟩ dX2_takeBackRefused_22 (fun H locs hW => ?_)
    refine lv_istore_n (lv' := [(2, .int u3), (1, .ref (aC iu1)), (0, .ref (ad 8))]) S.1 S.2.1 dX2_takeBackRefused_25 rfl hl (by decide) rfl (fun ls hl => ?_)
    refine lv_iconst (v := (0 : Int32)) S.1 S.2.1 dX2_takeBackRefused_26 (by decide) ?_
    refine lv_istore_n (lv' := [(3, .int ((0 : Int32))), (2, .int u3), (1, .ref (aC iu1)), (0, .ref (ad 8))]) S.1 S.2.1 dX2_takeBackRefused_27 rfl hl (by decide) rfl (fun ls hl => ?_)
    obtain ⟨u5, hX, hF⟩ := bd_of hF
    refine jnE (cst σ u5) (sst σ u5) (fun H locs ls => lv_has ls 5 [] ∧ EW D ad cA kk A aM aC X σ u5 s H locs) 92 [] (fun H locs ls hJ => ?_) (fun Ju5 => ?_)
    · obtain ⟨hl, hW⟩ := hJ
      obtain ⟨aE, hW, hle⟩ := hW
      obtain rfl := Option.some.inj hF
      exact er_v S hr hlk ⟨rfl, rfl⟩ hle hW dX2_takeBackRefused_92
    · refine lpE (fun (xu5 : Int32 × SC) => cst σ xu5.2) (fun (xu5 : Int32 × SC) => sst σ xu5.2) (fun (xu5 : Int32 × SC) H locs ls => lv_has ls 5 [(0, .ref (ad 8)), (1, .ref (aC iu1)), (2, .int u3), (3, .int xu5.1)] ∧ EW D ad cA kk A aM aC X σ xu5.2 s H locs) 28 (fun n xu5 => fC_Cl_takeBackRefused_L28 iu1 u3 n xu5.1 xu5.2) u5 (fun _ => rfl) (fun n xu5 ihu5 hF H locs ls hJ => ?_) 1000 ((0 : Int32), σ) hX _ _ _ ⟨lv_sub hl [3, 2, 1, 0] rfl, ⟨aE, hW, hle⟩⟩
      obtain ⟨hl, hW⟩ := hJ
      obtain ⟨aE, hW, hle⟩ := hW
      have hF : fC_Cl_takeBackRefused_L28 iu1 u3 (n + 1) xu5.1 xu5.2 = some u5 := hF
      rw [fC_Cl_takeBackRefused_L28] at hF
      refine lv_iload_n S.1 S.2.1 dX2_takeBackRefused_28 rfl (lv_at hl 3 rfl) ?_
      refine lv_aload_n S.1 S.2.1 dX2_takeBackRefused_29 rfl (lv_at hl 0 rfl) ?_
      refine xg_X2_32 S hW dX2_takeBackRefused_30 ?_
      refine xsz_0 S hW (gd_V m_516 m_517 m_518 m_72 m_519) ⟨Nat.le_of_ble_eq_true rfl, Nat.le_of_ble_eq_true rfl⟩ hl.1 (Nat.le_of_ble_eq_true rfl) ⟨cs_c hle hW.2.2.1, cs_s hle hW.2.2.1⟩ dX2_takeBackRefused_33 ?_
      refine lv_icmp_ge (tgt := 92) S.1 S.2.1 dX2_takeBackRefused_36 (by decide) (fun hc => ?_) (fun hc => ?_)
      · have hF := it_pos hc hF
        obtain rfl := Option.some.inj hF
        exact Ju5 _ _ _ ⟨lv_sub hl [] rfl, ⟨aE, hW, hle⟩⟩
      · have hF := it_neg hc hF
        refine lv_aload_n S.1 S.2.1 dX2_takeBackRefused_39 rfl (lv_at hl 0 rfl) ?_
        refine xg_X2_32 S hW dX2_takeBackRefused_40 ?_
        refine lv_iload_n S.1 S.2.1 dX2_takeBackRefused_43 rfl (lv_at hl 3 rfl) ?_
        obtain ⟨h7, hF⟩ := gd_of hF
        refine xgt_0 h7 S hW (gd_V m_579 m_580 m_581 m_72 m_582) ⟨Nat.le_of_ble_eq_true rfl, Nat.le_of_ble_eq_true rfl⟩ hl.1 (Nat.le_of_ble_eq_true rfl) ⟨cs_c hle hW.2.2.1, cs_s hle hW.2.2.1⟩ dX2_takeBackRefused_44 ?_
        refine xcast_M S hW (Nat.lt_of_not_le (fun q => h7 (Or.inr q))) m_510 dX2_takeBackRefused_47 ?_
        refine lv_astore (lv' := [(4, .ref (aM ((xu5.1).toNatClampNeg))), (0, .ref (ad 8)), (1, .ref (aC iu1)), (2, .int u3), (3, .int xu5.1)]) S.1 S.2.1 dX2_takeBackRefused_50 hl (by decide) rfl (fun ls hl => ?_)
        refine lv_aload S.1 S.2.1 dX2_takeBackRefused_52 (lv_at hl 0 rfl) ?_
        refine xg_X2_154 S hW (Nat.lt_of_not_le (fun q => h7 (Or.inr q))) dX2_takeBackRefused_54 ?_
        obtain ⟨u8, hX, hF⟩ := bd_of hF
        refine jnE (cst σ u8) (sst σ u8) (fun H locs ls => lv_has ls 5 [(0, .ref (ad 8)), (1, .ref (aC iu1)), (2, .int u3), (3, .int xu5.1)] ∧ EW D ad cA kk A aM aC X σ u8 s H locs) 86 [] (fun H locs ls hJ => ?_) (fun Ju8 => ?_)
        · obtain ⟨hl, hW⟩ := hJ
          obtain ⟨aE, hW, hle⟩ := hW
          refine lv_iinc (v := (xu5.1 + (1 : Int32))) (lv' := [(3, .int ((xu5.1 + (1 : Int32)))), (0, .ref (ad 8)), (1, .ref (aC iu1)), (2, .int u3)]) S.1 S.2.1 dX2_takeBackRefused_86 hl (k := 3) rfl rfl (by decide) rfl (fun ls hl => ?_)
          refine lv_goto (tgt := 28) S.1 S.2.1 dX2_takeBackRefused_89 (by decide) ?_
          exact ihu5 ((xu5.1 + (1 : Int32)), u8) hF _ _ _ ⟨lv_sub hl [1, 2, 3, 0] rfl, ⟨aE, hW, hle⟩⟩
        · have hF := hX
          refine lv_if_eq (tgt := 86) S.1 S.2.1 dX2_takeBackRefused_57 (by decide) (fun hc => ?_) (fun hc => ?_)
          · have hF := it_pos hc hF
            obtain rfl := Option.some.inj hF
            exact Ju8 _ _ _ ⟨lv_sub hl [1, 2, 3, 4] rfl, ⟨aE, hW, hle⟩⟩
          · have hF := it_neg hc hF
            refine lv_aload_n S.1 S.2.1 dX2_takeBackRefused_60 rfl (lv_at hl 2 rfl) ?_
            obtain ⟨h10, hF⟩ := gd_of hF
            obtain ⟨u9, hu9, hF⟩ := bd_of hF
            refine xc_v (k := 0) (As := []) (rest := []) (cC_Co_putBack l D ad cA kk A aM aC aE X hu9) (xr_C hW (Nat.lt_of_not_le h10)) S hW (gd_V m_726 m_727 m_728 m_81 m_729) (by decide +kernel) ⟨Nat.le_of_ble_eq_true rfl, Nat.le_of_ble_eq_true rfl⟩ rfl hl.1 rfl (Nat.le_of_ble_eq_true rfl) ⟨cs_c hle hW.2.2.1, cs_s hle hW.2.2.1⟩ dX2_takeBackRefused_61 (fun H locs hW => ?_)
            have nu9 := nC_Co_putBack hu9
            refine lv_aload_n S.1 S.2.1 dX2_takeBackRefused_64 rfl (lv_at hl 1 rfl) ?_
            refine lv_aload S.1 S.2.1 dX2_takeBackRefused_65 (lv_at hl 0 rfl) ?_
            refine lv_iconst (v := (3 : Int32)) S.1 S.2.1 dX2_takeBackRefused_67 (by decide) ?_
            refine lv_aload_n S.1 S.2.1 dX2_takeBackRefused_68 rfl (lv_at hl 2 rfl) ?_
            obtain ⟨h11, hF⟩ := gd_of hF
            refine xg_X2_161 S hW (Nat.lt_of_not_le h11) dX2_takeBackRefused_69 ?_
            refine lv_i2l (v := ((xc u9 0 iu1)).toInt64) S.1 S.2.1 dX2_takeBackRefused_72 rfl ?_
            have hq : nn u9 = nn xu5.2 := by simp only [nn, xn_yz, xn_yf, xn_yg, xn_ym, xn_yb, xn_yc, xn_ye, nu9]
            have hle : nn σ ≤ nn u9 := hq ▸ hle
            refine W.cs (cells' := cst σ u9) (slots' := sst σ u9) (cst_eq hq) (sst_eq hq) ?_
            obtain ⟨u12, hu12, hF⟩ := bd_of hF
            refine xe_v (k := 3) (As := [.ref (aM ((xu5.1).toNatClampNeg)), .int ((3 : Int32)), .long (((xc u9 0 iu1)).toInt64)]) (rest := []) (cC_Cl_write l D ad cA kk A aM aC aE X hu12) (xr_RX2 hW) S hle hW (gd_V m_538 m_539 m_540 m_27 m_541) (by decide +kernel) ⟨Nat.le_of_ble_eq_true rfl, Nat.le_of_ble_eq_true rfl⟩ rfl hl.1 rfl (Nat.le_of_ble_eq_true rfl) dX2_takeBackRefused_73 (fun aE H locs hW hle => ?_)
            refine lv_aload_n S.1 S.2.1 dX2_takeBackRefused_76 rfl (lv_at hl 1 rfl) ?_
            refine lv_aload S.1 S.2.1 dX2_takeBackRefused_77 (lv_at hl 0 rfl) ?_
            refine lv_iconst (v := (4 : Int32)) S.1 S.2.1 dX2_takeBackRefused_79 (by decide) ?_
            refine lv_iload_n S.1 S.2.1 dX2_takeBackRefused_80 rfl (lv_at hl 3 rfl) ?_
            refine lv_ineg S.1 S.2.1 dX2_takeBackRefused_81 ?_
            refine lv_i2l (v := ((-u3)).toInt64) S.1 S.2.1 dX2_takeBackRefused_82 rfl ?_
            obtain ⟨u13, hu13, hF⟩ := bd_of hF
            refine xe_v (k := 3) (As := [.ref (aM ((xu5.1).toNatClampNeg)), .int ((4 : Int32)), .long (((-u3)).toInt64)]) (rest := []) (cC_Cl_write l D ad cA kk A aM aC aE X hu13) (xr_RX2 hW) S hle hW (gd_V m_538 m_539 m_540 m_27 m_541) (by decide +kernel) ⟨Nat.le_of_ble_eq_true rfl, Nat.le_of_ble_eq_true rfl⟩ rfl hl.1 rfl (Nat.le_of_ble_eq_true rfl) dX2_takeBackRefused_83 (fun aE H locs hW hle => ?_)
            obtain rfl := Option.some.inj hF
            exact Ju8 _ _ _ ⟨lv_sub hl [1, 2, 3, 4] rfl, ⟨aE, hW, hle⟩⟩
def fC_Cl_sendChoice_L29 (l1 : Int32) (l2 : Int32) (l3 : Int32) : Nat → Int32 → SC → Option (SC)
  | 0, _, _ => none
  | n + 1, x4, σ =>
    if (nI (xn σ 0)) ≤ x4 then
    some ((σ))
    else
    if x4 < 0 ∨ xn σ 0 ≤ (x4).toNatClampNeg then none else
    Option.bind (fC_Me_forgetLatestChoice σ ((x4).toNatClampNeg)) (fun u2 =>
    if xn u2 0 ≤ (x4).toNatClampNeg then none else
    Option.bind (if (xm u2 3 ((x4).toNatClampNeg)) = 0 then
    Option.bind (fC_Me_refusedInTime u2 ((x4).toNatClampNeg) l1) (fun u5 =>
    if u5 = 0 then
    Option.bind (fC_Cl_sendTo u2 ((x4).toNatClampNeg) l2 l3) (fun u6 =>
    some (u6))
    else
    some (u2))
    else
    some (u2)) (fun u4 =>
    fC_Cl_sendChoice_L29 l1 l2 l3 n ((x4 + (1 : Int32))) u4))
def fC_Cl_sendChoice (σ : SC) : Option (SC) :=
  Option.bind (fC_Cl_inForceNow σ ((0 : Int32))) (fun u1 =>
  Option.bind (fC_Cl_inForceNow σ ((2 : Int32))) (fun u2 =>
  Option.bind (fC_Cl_inForceNow σ ((7 : Int32))) (fun u3 =>
  if xn σ 1 ≤ (xn σ 3) then none else
  Option.bind (fC_Co_percentOfPrice σ ((xn σ 3)) u3) (fun u4 =>
  Option.bind (fC_Cl_sendChoice_L29 u1 u2 u4 1000 ((0 : Int32)) σ) (fun u6 =>
  some u6)))))
set_option maxRecDepth 100000 in
set_option maxHeartbeats 4000000 in
theorem cC_Cl_sendChoice (l : Launch) (D : va_G) (ad : Nat → Nat) (cA : Nat → ClassId) (kk : Nat → Nat) (A : Nat → Prop) (aM aC aE : Nat → Nat) (X : va_W) {σ : SC} {o : SC} (hF : fC_Cl_sendChoice σ = some o) : MvE (GE aM aC) l yX2_sendChoice cX2_sendChoice 6 10 263 [.ref (ad 8)] D ad cA kk A aM aC aE X σ o := by
  refine Mg.of (own := RX2) rfl (by decide +kernel) (Nat.le_of_ble_eq_true rfl) ?_
  intro p e s m args below meth c ls S hr hlk hP hl
  have hW := CW.start hP
  have hle : nn σ ≤ nn σ := Nat.le_refl _
  refine W.cs (cells' := cst σ σ) (slots' := sst σ σ) (cst_0 σ).symm (sst_0 σ).symm ?_
  have hl : lv_has ls 6 [(0, .ref (ad 8))] := hl
  rw [fC_Cl_sendChoice] at hF
  refine lv_aload_n S.1 S.2.1 dX2_sendChoice_0 rfl (lv_at hl 0 rfl) ?_
  refine lv_iconst (v := (0 : Int32)) S.1 S.2.1 dX2_sendChoice_1 (by decide) ?_
  obtain ⟨u1, hu1, hF⟩ := bd_of hF
  refine xc_i (k := 1) (As := [.int ((0 : Int32))]) (rest := []) (cC_Cl_inForceNow l D ad cA kk A aM aC aE X hu1) (xr_RX2 hW) S hW (gd_V m_520 m_521 m_522 m_27 m_523) (by decide +kernel) ⟨Nat.le_of_ble_eq_true rfl, Nat.le_of_ble_eq_true rfl⟩ rfl hl.1 rfl (Nat.le_of_ble_eq_true rfl) ⟨cs_c hle hW.2.2.1, cs_s hle hW.2.2.1⟩ dX2_sendChoice_2 (fun H locs hW => ?_)
  refine lv_istore_n (lv' := [(1, .int u1), (0, .ref (ad 8))]) S.1 S.2.1 dX2_sendChoice_5 rfl hl (by decide) rfl (fun ls hl => ?_)
  refine lv_aload_n S.1 S.2.1 dX2_sendChoice_6 rfl (lv_at hl 1 rfl) ?_
  refine lv_iconst (v := (2 : Int32)) S.1 S.2.1 dX2_sendChoice_7 (by decide) ?_
  obtain ⟨u2, hu2, hF⟩ := bd_of hF
  refine xc_i (k := 1) (As := [.int ((2 : Int32))]) (rest := []) (cC_Cl_inForceNow l D ad cA kk A aM aC aE X hu2) (xr_RX2 hW) S hW (gd_V m_520 m_521 m_522 m_27 m_523) (by decide +kernel) ⟨Nat.le_of_ble_eq_true rfl, Nat.le_of_ble_eq_true rfl⟩ rfl hl.1 rfl (Nat.le_of_ble_eq_true rfl) ⟨cs_c hle hW.2.2.1, cs_s hle hW.2.2.1⟩ dX2_sendChoice_8 (fun H locs hW => ?_)
  refine lv_istore_n (lv' := [(2, .int u2), (1, .int u1), (0, .ref (ad 8))]) S.1 S.2.1 dX2_sendChoice_11 rfl hl (by decide) rfl (fun ls hl => ?_)
  refine lv_aload_n S.1 S.2.1 dX2_sendChoice_12 rfl (lv_at hl 2 rfl) ?_
  refine xg_X2_49 S hW dX2_sendChoice_13 ?_
  refine lv_aload_n S.1 S.2.1 dX2_sendChoice_16 rfl (lv_at hl 2 rfl) ?_
  refine lv_bipush (v := (7 : Int32)) S.1 S.2.1 dX2_sendChoice_17 (by decide) ?_
  obtain ⟨u3, hu3, hF⟩ := bd_of hF
  refine xc_i (k := 1) (As := [.int ((7 : Int32))]) (rest := [.ref (aC ((xn σ 3)))]) (cC_Cl_inForceNow l D ad cA kk A aM aC aE X hu3) (xr_RX2 hW) S hW (gd_V m_520 m_521 m_522 m_27 m_523) (by decide +kernel) ⟨Nat.le_of_ble_eq_true rfl, Nat.le_of_ble_eq_true rfl⟩ rfl hl.1 rfl (Nat.le_of_ble_eq_true rfl) ⟨cs_c hle hW.2.2.1, cs_s hle hW.2.2.1⟩ dX2_sendChoice_19 (fun H locs hW => ?_)
  obtain ⟨h5, hF⟩ := gd_of hF
  obtain ⟨u4, hu4, hF⟩ := bd_of hF
  refine xc_i (k := 1) (As := [.int u3]) (rest := []) (cC_Co_percentOfPrice l D ad cA kk A aM aC aE X hu4) (xr_C hW (Nat.lt_of_not_le h5)) S hW (gd_V m_722 m_723 m_724 m_81 m_725) (by decide +kernel) ⟨Nat.le_of_ble_eq_true rfl, Nat.le_of_ble_eq_true rfl⟩ rfl hl.1 rfl (Nat.le_of_ble_eq_true rfl) ⟨cs_c hle hW.2.2.1, cs_s hle hW.2.2.1⟩ dX2_sendChoice_22 (fun H locs hW => ?_)
  refine lv_istore_n (lv' := [(3, .int u4), (2, .int u2), (1, .int u1), (0, .ref (ad 8))]) S.1 S.2.1 dX2_sendChoice_25 rfl hl (by decide) rfl (fun ls hl => ?_)
  refine lv_iconst (v := (0 : Int32)) S.1 S.2.1 dX2_sendChoice_26 (by decide) ?_
  refine lv_istore (lv' := [(4, .int ((0 : Int32))), (3, .int u4), (2, .int u2), (1, .int u1), (0, .ref (ad 8))]) S.1 S.2.1 dX2_sendChoice_27 hl (by decide) rfl (fun ls hl => ?_)
  obtain ⟨u6, hX, hF⟩ := bd_of hF
  refine jnE (cst σ u6) (sst σ u6) (fun H locs ls => lv_has ls 6 [] ∧ EW D ad cA kk A aM aC X σ u6 s H locs) 91 [] (fun H locs ls hJ => ?_) (fun Ju6 => ?_)
  · obtain ⟨hl, hW⟩ := hJ
    obtain ⟨aE, hW, hle⟩ := hW
    obtain rfl := Option.some.inj hF
    exact er_v S hr hlk ⟨rfl, rfl⟩ hle hW dX2_sendChoice_91
  · refine lpE (fun (xu6 : Int32 × SC) => cst σ xu6.2) (fun (xu6 : Int32 × SC) => sst σ xu6.2) (fun (xu6 : Int32 × SC) H locs ls => lv_has ls 6 [(0, .ref (ad 8)), (1, .int u1), (2, .int u2), (3, .int u4), (4, .int xu6.1)] ∧ EW D ad cA kk A aM aC X σ xu6.2 s H locs) 29 (fun n xu6 => fC_Cl_sendChoice_L29 u1 u2 u4 n xu6.1 xu6.2) u6 (fun _ => rfl) (fun n xu6 ihu6 hF H locs ls hJ => ?_) 1000 ((0 : Int32), σ) hX _ _ _ ⟨lv_sub hl [4, 3, 2, 1, 0] rfl, ⟨aE, hW, hle⟩⟩
    obtain ⟨hl, hW⟩ := hJ
    obtain ⟨aE, hW, hle⟩ := hW
    have hF : fC_Cl_sendChoice_L29 u1 u2 u4 (n + 1) xu6.1 xu6.2 = some u6 := hF
    rw [fC_Cl_sendChoice_L29] at hF
    refine lv_iload S.1 S.2.1 dX2_sendChoice_29 (lv_at hl 4 rfl) ?_
    refine lv_aload_n S.1 S.2.1 dX2_sendChoice_31 rfl (lv_at hl 0 rfl) ?_
    refine xg_X2_32 S hW dX2_sendChoice_32 ?_
    refine xsz_0 S hW (gd_V m_516 m_517 m_518 m_72 m_519) ⟨Nat.le_of_ble_eq_true rfl, Nat.le_of_ble_eq_true rfl⟩ hl.1 (Nat.le_of_ble_eq_true rfl) ⟨cs_c hle hW.2.2.1, cs_s hle hW.2.2.1⟩ dX2_sendChoice_35 ?_
    refine lv_icmp_ge (tgt := 91) S.1 S.2.1 dX2_sendChoice_38 (by decide) (fun hc => ?_) (fun hc => ?_)
    · have hF := it_pos hc hF
      obtain rfl := Option.some.inj hF
      exact Ju6 _ _ _ ⟨lv_sub hl [] rfl, ⟨aE, hW, hle⟩⟩
    · have hF := it_neg hc hF
      refine lv_aload_n S.1 S.2.1 dX2_sendChoice_41 rfl (lv_at hl 0 rfl) ?_
      refine xg_X2_32 S hW dX2_sendChoice_42 ?_
      refine lv_iload S.1 S.2.1 dX2_sendChoice_45 (lv_at hl 4 rfl) ?_
      obtain ⟨h8, hF⟩ := gd_of hF
      refine xgt_0 h8 S hW (gd_V m_579 m_580 m_581 m_72 m_582) ⟨Nat.le_of_ble_eq_true rfl, Nat.le_of_ble_eq_true rfl⟩ hl.1 (Nat.le_of_ble_eq_true rfl) ⟨cs_c hle hW.2.2.1, cs_s hle hW.2.2.1⟩ dX2_sendChoice_47 ?_
      refine xcast_M S hW (Nat.lt_of_not_le (fun q => h8 (Or.inr q))) m_510 dX2_sendChoice_50 ?_
      refine lv_astore (lv' := [(5, .ref (aM ((xu6.1).toNatClampNeg))), (0, .ref (ad 8)), (1, .int u1), (2, .int u2), (3, .int u4), (4, .int xu6.1)]) S.1 S.2.1 dX2_sendChoice_53 hl (by decide) rfl (fun ls hl => ?_)
      refine lv_aload S.1 S.2.1 dX2_sendChoice_55 (lv_at hl 0 rfl) ?_
      obtain ⟨u9, hu9, hF⟩ := bd_of hF
      refine xc_v (k := 0) (As := []) (rest := []) (cC_Me_forgetLatestChoice l D ad cA kk A aM aC aE X hu9) (xr_M hW (Nat.lt_of_not_le (fun q => h8 (Or.inr q)))) S hW (gd_V m_735 m_736 m_737 m_512 m_738) (by decide +kernel) ⟨Nat.le_of_ble_eq_true rfl, Nat.le_of_ble_eq_true rfl⟩ rfl hl.1 rfl (Nat.le_of_ble_eq_true rfl) ⟨cs_c hle hW.2.2.1, cs_s hle hW.2.2.1⟩ dX2_sendChoice_57 (fun H locs hW => ?_)
      have nu9 := nC_Me_forgetLatestChoice hu9
      refine lv_aload S.1 S.2.1 dX2_sendChoice_60 (lv_at hl 0 rfl) ?_
      obtain ⟨h10, hF⟩ := gd_of hF
      refine xg_X2_75 S hW (Nat.lt_of_not_le h10) dX2_sendChoice_62 ?_
      obtain ⟨u11, hX, hF⟩ := bd_of hF
      refine jnE (cst σ u11) (sst σ u11) (fun H locs ls => lv_has ls 6 [(0, .ref (ad 8)), (1, .int u1), (2, .int u2), (3, .int u4), (4, .int xu6.1)] ∧ EW D ad cA kk A aM aC X σ u11 s H locs) 85 [] (fun H locs ls hJ => ?_) (fun Ju11 => ?_)
      · obtain ⟨hl, hW⟩ := hJ
        obtain ⟨aE, hW, hle⟩ := hW
        refine lv_iinc (v := (xu6.1 + (1 : Int32))) (lv' := [(4, .int ((xu6.1 + (1 : Int32)))), (0, .ref (ad 8)), (1, .int u1), (2, .int u2), (3, .int u4)]) S.1 S.2.1 dX2_sendChoice_85 hl (k := 4) rfl rfl (by decide) rfl (fun ls hl => ?_)
        refine lv_goto (tgt := 29) S.1 S.2.1 dX2_sendChoice_88 (by decide) ?_
        exact ihu6 ((xu6.1 + (1 : Int32)), u11) hF _ _ _ ⟨lv_sub hl [1, 2, 3, 4, 0] rfl, ⟨aE, hW, hle⟩⟩
      · have hF := hX
        refine lv_if_ne (tgt := 85) S.1 S.2.1 dX2_sendChoice_65 (by decide) (fun hc => ?_) (fun hc => ?_)
        · have hF := it_neg hc hF
          obtain rfl := Option.some.inj hF
          have hq : nn u9 = nn xu6.2 := by simp only [nn, xn_yz, xn_yf, xn_yg, xn_ym, xn_yb, xn_yc, xn_ye, nu9]
          have hle : nn σ ≤ nn u9 := hq ▸ hle
          refine W.cs (cells' := cst σ u9) (slots' := sst σ u9) (cst_eq hq) (sst_eq hq) ?_
          exact Ju11 _ _ _ ⟨lv_sub hl [1, 2, 3, 4, 5] rfl, ⟨aE, hW, hle⟩⟩
        · have hF := it_pos hc hF
          refine lv_aload S.1 S.2.1 dX2_sendChoice_68 (lv_at hl 0 rfl) ?_
          refine lv_iload_n S.1 S.2.1 dX2_sendChoice_70 rfl (lv_at hl 2 rfl) ?_
          have hq : nn u9 = nn xu6.2 := by simp only [nn, xn_yz, xn_yf, xn_yg, xn_ym, xn_yb, xn_yc, xn_ye, nu9]
          have hle : nn σ ≤ nn u9 := hq ▸ hle
          refine W.cs (cells' := cst σ u9) (slots' := sst σ u9) (cst_eq hq) (sst_eq hq) ?_
          obtain ⟨u12, hu12, hF⟩ := bd_of hF
          refine xc_i (k := 1) (As := [.int u1]) (rest := []) (cC_Me_refusedInTime l D ad cA kk A aM aC aE X hu12) (xr_M hW (Nat.lt_of_not_le h10)) S hW (gd_V m_742 m_743 m_744 m_512 m_745) (by decide +kernel) ⟨Nat.le_of_ble_eq_true rfl, Nat.le_of_ble_eq_true rfl⟩ rfl hl.1 rfl (Nat.le_of_ble_eq_true rfl) ⟨cs_c hle hW.2.2.1, cs_s hle hW.2.2.1⟩ dX2_sendChoice_71 (fun H locs hW => ?_)
          refine lv_if_ne (tgt := 85) S.1 S.2.1 dX2_sendChoice_74 (by decide) (fun hc => ?_) (fun hc => ?_)
          · have hF := it_neg hc hF
            obtain rfl := Option.some.inj hF
            exact Ju11 _ _ _ ⟨lv_sub hl [1, 2, 3, 4, 5] rfl, ⟨aE, hW, hle⟩⟩
          · have hF := it_pos hc hF
            refine lv_aload_n S.1 S.2.1 dX2_sendChoice_77 rfl (lv_at hl 1 rfl) ?_
            refine lv_aload S.1 S.2.1 dX2_sendChoice_78 (lv_at hl 0 rfl) ?_
            refine lv_iload_n S.1 S.2.1 dX2_sendChoice_80 rfl (lv_at hl 3 rfl) ?_
            refine lv_iload_n S.1 S.2.1 dX2_sendChoice_81 rfl (lv_at hl 4 rfl) ?_
            obtain ⟨u13, hu13, hF⟩ := bd_of hF
            refine xe_v (k := 3) (As := [.ref (aM ((xu6.1).toNatClampNeg)), .int u2, .int u4]) (rest := []) (cC_Cl_sendTo l D ad cA kk A aM aC aE X hu13) (xr_RX2 hW) S hle hW (gd_V m_747 m_748 m_749 m_27 m_750) (by decide +kernel) ⟨Nat.le_of_ble_eq_true rfl, Nat.le_of_ble_eq_true rfl⟩ rfl hl.1 rfl (Nat.le_of_ble_eq_true rfl) dX2_sendChoice_82 (fun aE H locs hW hle => ?_)
            obtain rfl := Option.some.inj hF
            exact Ju11 _ _ _ ⟨lv_sub hl [1, 2, 3, 4, 5] rfl, ⟨aE, hW, hle⟩⟩
