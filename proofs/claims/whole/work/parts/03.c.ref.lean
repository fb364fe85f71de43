def fR_refuse (σ : SR) (a1 : Int32) (a2 : Int32) : Option (Int32 × SR) :=
  Option.bind (fR_isMember (pz σ 31 ((0 : Int32))) a1) (fun u1 =>
  if u1 = 0 then
  some ((-1 : Int32), pz σ 31 ((0 : Int32)))
  else
  if a1 < 0 ∨ 40 ≤ (a1).toNatClampNeg then none else
  if (gf (pz σ 31 ((0 : Int32))) 12 (a1).toNatClampNeg) = (2 : Int32) then
  some ((-1 : Int32), pz σ 31 ((0 : Int32)))
  else
  Option.bind (fR_in a2 ((1 : Int32)) ((30 : Int32))) (fun u3 =>
  if u3 = 0 then
  some ((-1 : Int32), pz σ 31 ((0 : Int32)))
  else
  if (gf (pz σ 31 ((0 : Int32))) 15 (a1).toNatClampNeg) ≤ 0 then
  if (gf (pz σ 31 ((0 : Int32))) 11 (a1).toNatClampNeg) < 0 ∨ 10 ≤ ((gf (pz σ 31 ((0 : Int32))) 11 (a1).toNatClampNeg)).toNatClampNeg then none else
  some ((gf (pf (pz σ 31 ((0 : Int32))) 15 (a1).toNatClampNeg ((a2 + (gf (pz σ 31 ((0 : Int32))) 8 ((gf (pz σ 31 ((0 : Int32))) 11 (a1).toNatClampNeg)).toNatClampNeg)))) 15 (a1).toNatClampNeg), pf (pz σ 31 ((0 : Int32))) 15 (a1).toNatClampNeg ((a2 + (gf (pz σ 31 ((0 : Int32))) 8 ((gf (pz σ 31 ((0 : Int32))) 11 (a1).toNatClampNeg)).toNatClampNeg))))
  else
  some ((-1 : Int32), pz σ 31 ((0 : Int32)))))
set_option maxRecDepth 100000 in
set_option maxHeartbeats 4000000 in
theorem cR_refuse (l : Launch) (D : va_G) (ad : Nat → Nat) (cA : Nat → ClassId) (kk : Nat → Nat) (hd : RD ad) {σ : SR} {a1 : Int32} {a2 : Int32} {o : Int32 × SR} (hF : fR_refuse σ a1 a2 = some o) : Mi l yX11_refuse cX11_refuse 3 .int { frames := 2, cells := 0, slots := 0, locals := 43 } [.ref (ad 35), .int a1, .int a2] (RP D ad cA kk σ) o.1 (RP D ad cA kk (o.2)) (RA ad) := by
  refine Mi.of (own := RX11) rfl (by decide +kernel) (Nat.le_of_ble_eq_true rfl) ?_
  intro p e s m args below meth c ls S hr hlk hP hl
  have hW := RW.start hd hP
  have hl : lv_has ls 3 [(0, .ref (ad 35)), (1, .int a1), (2, .int a2)] := hl
  rw [fR_refuse] at hF
  refine lv_aload_n S.1 S.2.1 dX11_refuse_0 rfl (lv_at hl 0 rfl) ?_
  refine lv_iconst (v := (0 : Int32)) S.1 S.2.1 dX11_refuse_1 (by decide) ?_
  refine rp_thrown S hW dX11_refuse_2 (fun H locs hW => ?_)
  refine lv_aload_n S.1 S.2.1 dX11_refuse_5 rfl (lv_at hl 0 rfl) ?_
  refine lv_iload_n S.1 S.2.1 dX11_refuse_6 rfl (lv_at hl 1 rfl) ?_
  obtain ⟨u1, hu1, hF⟩ := bd_of hF
  refine rc_i (k := 1) (As := [.int a1]) (rest := []) (cR_isMember l D ad cA kk hd hu1) hd (fun _ h => h) S hW (gd_V m_600 m_601 m_602 m_5 m_603) (by decide +kernel) ⟨Nat.le_of_ble_eq_true rfl, Nat.le_of_ble_eq_true rfl⟩ rfl hl.1 rfl (Nat.le_of_ble_eq_true rfl) ⟨Nat.le_of_ble_eq_true rfl, Nat.le_of_ble_eq_true rfl⟩ dX11_refuse_7 (fun H locs hW => ?_)
  refine lv_if_eq (tgt := 42) S.1 S.2.1 dX11_refuse_10 (by decide) (fun hc => ?_) (fun hc => ?_)
  · have hF := it_pos hc hF
    refine lv_iconst (v := (-1 : Int32)) S.1 S.2.1 dX11_refuse_42 (by decide) ?_
    obtain rfl := Option.some.inj hF
    exact rr_i S hr hlk hW rfl rfl dX11_refuse_43
  · have hF := it_neg hc hF
    refine lv_aload_n S.1 S.2.1 dX11_refuse_13 rfl (lv_at hl 0 rfl) ?_
    refine rg_state S hW dX11_refuse_14 ?_
    refine lv_iload_n S.1 S.2.1 dX11_refuse_17 rfl (lv_at hl 1 rfl) ?_
    obtain ⟨h2, hF⟩ := gd_of hF
    refine rl_state S hW h2 dX11_refuse_18 ?_
    refine lv_iconst (v := (2 : Int32)) S.1 S.2.1 dX11_refuse_19 (by decide) ?_
    refine lv_icmp_eq (tgt := 42) S.1 S.2.1 dX11_refuse_20 (by decide) (fun hc => ?_) (fun hc => ?_)
    · have hF := it_pos hc hF
      refine lv_iconst (v := (-1 : Int32)) S.1 S.2.1 dX11_refuse_42 (by decide) ?_
      obtain rfl := Option.some.inj hF
      exact rr_i S hr hlk hW rfl rfl dX11_refuse_43
    · have hF := it_neg hc hF
      refine lv_iload_n S.1 S.2.1 dX11_refuse_23 rfl (lv_at hl 2 rfl) ?_
      refine lv_iconst (v := (1 : Int32)) S.1 S.2.1 dX11_refuse_24 (by decide) ?_
      refine lv_bipush (v := (30 : Int32)) S.1 S.2.1 dX11_refuse_25 (by decide) ?_
      obtain ⟨u3, hu3, hF⟩ := bd_of hF
      refine sc_i (k := 3) (As := [.int a2, .int ((1 : Int32)), .int ((30 : Int32))]) (rest := []) (cR_in l hu3) S (gd_S m_391 m_392 m_5 m_393) rfl rfl (by decide +kernel) ⟨Nat.le_of_ble_eq_true rfl, Nat.le_of_ble_eq_true rfl⟩ rfl hl.1 rfl (Nat.le_of_ble_eq_true rfl) ⟨Nat.le_of_ble_eq_true rfl, Nat.le_of_ble_eq_true rfl⟩ dX11_refuse_27 ?_
      refine lv_if_eq (tgt := 42) S.1 S.2.1 dX11_refuse_30 (by decide) (fun hc => ?_) (fun hc => ?_)
      · have hF := it_pos hc hF
        refine lv_iconst (v := (-1 : Int32)) S.1 S.2.1 dX11_refuse_42 (by decide) ?_
        obtain rfl := Option.some.inj hF
        exact rr_i S hr hlk hW rfl rfl dX11_refuse_43
      · have hF := it_neg hc hF
        refine lv_aload_n S.1 S.2.1 dX11_refuse_33 rfl (lv_at hl 0 rfl) ?_
        refine rg_refusal S hW dX11_refuse_34 ?_
        refine lv_iload_n S.1 S.2.1 dX11_refuse_37 rfl (lv_at hl 1 rfl) ?_
        refine rl_refusal S hW h2 dX11_refuse_38 ?_
        refine lv_if_le (tgt := 44) S.1 S.2.1 dX11_refuse_39 (by decide) (fun hc => ?_) (fun hc => ?_)
        · have hF := it_pos hc hF
          refine lv_aload_n S.1 S.2.1 dX11_refuse_44 rfl (lv_at hl 0 rfl) ?_
          refine rg_refusal S hW dX11_refuse_45 ?_
          refine lv_iload_n S.1 S.2.1 dX11_refuse_48 rfl (lv_at hl 1 rfl) ?_
          refine lv_iload_n S.1 S.2.1 dX11_refuse_49 rfl (lv_at hl 2 rfl) ?_
          refine lv_aload_n S.1 S.2.1 dX11_refuse_50 rfl (lv_at hl 0 rfl) ?_
          refine rg_lags S hW dX11_refuse_51 ?_
          refine lv_aload_n S.1 S.2.1 dX11_refuse_54 rfl (lv_at hl 0 rfl) ?_
          refine rg_house S hW dX11_refuse_55 ?_
          refine lv_iload_n S.1 S.2.1 dX11_refuse_58 rfl (lv_at hl 1 rfl) ?_
          refine rl_house S hW h2 dX11_refuse_59 ?_
          obtain ⟨h4, hF⟩ := gd_of hF
          refine rl_lags S hW h4 dX11_refuse_60 ?_
          refine lv_iadd S.1 S.2.1 dX11_refuse_61 ?_
          refine rs_refusal S hW h2 dX11_refuse_62 (fun H locs hW => ?_)
          refine lv_aload_n S.1 S.2.1 dX11_refuse_63 rfl (lv_at hl 0 rfl) ?_
          refine rg_refusal S hW dX11_refuse_64 ?_
          refine lv_iload_n S.1 S.2.1 dX11_refuse_67 rfl (lv_at hl 1 rfl) ?_
          refine rl_refusal S hW h2 dX11_refuse_68 ?_
          obtain rfl := Option.some.inj hF
          exact rr_i S hr hlk hW rfl rfl dX11_refuse_69
        · have hF := it_neg hc hF
          refine lv_iconst (v := (-1 : Int32)) S.1 S.2.1 dX11_refuse_42 (by decide) ?_
          obtain rfl := Option.some.inj hF
          exact rr_i S hr hlk hW rfl rfl dX11_refuse_43
def fR_takeBack_L12 (l1 : Int32) : Nat → Int32 → SR → Option (SR)
  | 0, _, _ => none
  | n + 1, x2, σ =>
    if (gz σ 19) ≤ x2 then
    some ((σ))
    else
    if x2 < 0 ∨ 40 ≤ (x2).toNatClampNeg then none else
    Option.bind (if (gf σ 16 (x2).toNatClampNeg) = 0 then
    some (σ)
    else
    if (gf σ 18 (x2).toNatClampNeg) = 0 then
    some (σ)
    else
    if (l1 + (2 : Int32)) < 0 ∨ 488 ≤ ((l1 + (2 : Int32))).toNatClampNeg then none else
    if (l1 + (4 : Int32)) < 0 ∨ 488 ≤ ((l1 + (4 : Int32))).toNatClampNeg then none else
    if l1 < 0 ∨ 488 ≤ (l1).toNatClampNeg then none else
    if (gf (pf (pf σ 21 ((l1 + (2 : Int32))).toNatClampNeg (((gf σ 21 ((l1 + (2 : Int32))).toNatClampNeg) + (1 : Int32)))) 21 ((l1 + (4 : Int32))).toNatClampNeg (((gf (pf σ 21 ((l1 + (2 : Int32))).toNatClampNeg (((gf σ 21 ((l1 + (2 : Int32))).toNatClampNeg) + (1 : Int32)))) 21 ((l1 + (4 : Int32))).toNatClampNeg) + (1 : Int32)))) 21 (l1).toNatClampNeg) = 0 then
    some (pf (pf σ 21 ((l1 + (2 : Int32))).toNatClampNeg (((gf σ 21 ((l1 + (2 : Int32))).toNatClampNeg) + (1 : Int32)))) 21 ((l1 + (4 : Int32))).toNatClampNeg (((gf (pf σ 21 ((l1 + (2 : Int32))).toNatClampNeg (((gf σ 21 ((l1 + (2 : Int32))).toNatClampNeg) + (1 : Int32)))) 21 ((l1 + (4 : Int32))).toNatClampNeg) + (1 : Int32))))
    else
    Option.bind (fR_enter (pf (pf σ 21 ((l1 + (2 : Int32))).toNatClampNeg (((gf σ 21 ((l1 + (2 : Int32))).toNatClampNeg) + (1 : Int32)))) 21 ((l1 + (4 : Int32))).toNatClampNeg (((gf (pf σ 21 ((l1 + (2 : Int32))).toNatClampNeg (((gf σ 21 ((l1 + (2 : Int32))).toNatClampNeg) + (1 : Int32)))) 21 ((l1 + (4 : Int32))).toNatClampNeg) + (1 : Int32)))) x2 ((3 : Int32)) (((gf (pf (pf σ 21 ((l1 + (2 : Int32))).toNatClampNeg (((gf σ 21 ((l1 + (2 : Int32))).toNatClampNeg) + (1 : Int32)))) 21 ((l1 + (4 : Int32))).toNatClampNeg (((gf (pf σ 21 ((l1 + (2 : Int32))).toNatClampNeg (((gf σ 21 ((l1 + (2 : Int32))).toNatClampNeg) + (1 : Int32)))) 21 ((l1 + (4 : Int32))).toNatClampNeg) + (1 : Int32)))) 21 (l1).toNatClampNeg)).toInt64)) (fun u6 =>
    Option.bind (fR_ruleOf u6 ((1 : Int32)) ((gz u6 20))) (fun u7 =>
    if (((gf (pf (pf σ 21 ((l1 + (2 : Int32))).toNatClampNeg (((gf σ 21 ((l1 + (2 : Int32))).toNatClampNeg) + (1 : Int32)))) 21 ((l1 + (4 : Int32))).toNatClampNeg (((gf (pf σ 21 ((l1 + (2 : Int32))).toNatClampNeg (((gf σ 21 ((l1 + (2 : Int32))).toNatClampNeg) + (1 : Int32)))) 21 ((l1 + (4 : Int32))).toNatClampNeg) + (1 : Int32)))) 21 (l1).toNatClampNeg) * u7) / (100 : Int32)) ≤ 0 then
    some (u6)
    else
    Option.bind (fR_enter u6 x2 ((4 : Int32)) (((-(((gf (pf (pf σ 21 ((l1 + (2 : Int32))).toNatClampNeg (((gf σ 21 ((l1 + (2 : Int32))).toNatClampNeg) + (1 : Int32)))) 21 ((l1 + (4 : Int32))).toNatClampNeg (((gf (pf σ 21 ((l1 + (2 : Int32))).toNatClampNeg (((gf σ 21 ((l1 + (2 : Int32))).toNatClampNeg) + (1 : Int32)))) 21 ((l1 + (4 : Int32))).toNatClampNeg) + (1 : Int32)))) 21 (l1).toNatClampNeg) * u7) / (100 : Int32)))).toInt64)) (fun u8 =>
    some (u8))))) (fun u2 =>
    fR_takeBack_L12 l1 n ((x2 + (1 : Int32))) u2)
def fR_takeBack (σ : SR) : Option (SR) :=
  Option.bind (fR_takeBack_L12 (((8 : Int32) * ((gz σ 20) - (1 : Int32)))) 1000 ((0 : Int32)) σ) (fun u1 =>
  some u1)
set_option maxRecDepth 100000 in
set_option maxHeartbeats 4000000 in
theorem cR_takeBack (l : Launch) (D : va_G) (ad : Nat → Nat) (cA : Nat → ClassId) (kk : Nat → Nat) (hd : RD ad) {σ : SR} {o : SR} (hF : fR_takeBack σ = some o) : Mv l yX11_takeBack cX11_takeBack 5 { frames := 1, cells := 0, slots := 0, locals := 24 } [.ref (ad 35)] (RP D ad cA kk σ) (RP D ad cA kk o) (RA ad) := by
  refine Mv.of (own := RX11) rfl (by decide +kernel) (Nat.le_of_ble_eq_true rfl) ?_
  intro p e s m args below meth c ls S hr hlk hP hl _
  have hW := RW.start hd hP
  have hl : lv_has ls 5 [(0, .ref (ad 35))] := hl
  rw [fR_takeBack] at hF
  refine lv_bipush (v := (8 : Int32)) S.1 S.2.1 dX11_takeBack_0 (by decide) ?_
  refine lv_aload_n S.1 S.2.1 dX11_takeBack_2 rfl (lv_at hl 0 rfl) ?_
  refine rg_month S hW dX11_takeBack_3 ?_
  refine lv_iconst (v := (1 : Int32)) S.1 S.2.1 dX11_takeBack_6 (by decide) ?_
  refine lv_isub S.1 S.2.1 dX11_takeBack_7 ?_
  refine lv_imul S.1 S.2.1 dX11_takeBack_8 ?_
  refine lv_istore_n (lv' := [(1, .int (((8 : Int32) * ((gz σ 20) - (1 : Int32))))), (0, .ref (ad 35))]) S.1 S.2.1 dX11_takeBack_9 rfl hl (by decide) rfl (fun ls hl => ?_)
  refine lv_iconst (v := (0 : Int32)) S.1 S.2.1 dX11_takeBack_10 (by decide) ?_
  refine lv_istore_n (lv' := [(2, .int ((0 : Int32))), (1, .int (((8 : Int32) * ((gz σ 20) - (1 : Int32))))), (0, .ref (ad 35))]) S.1 S.2.1 dX11_takeBack_11 rfl hl (by decide) rfl (fun ls hl => ?_)
  obtain ⟨u1, hX, hF⟩ := bd_of hF
  refine jn1 (fun H locs ls => lv_has ls 5 [] ∧ RW D ad cA kk u1 s (RA ad) H locs) 124 [] (fun H locs ls hJ => ?_) (fun Ju1 => ?_)
  · obtain ⟨hl, hW⟩ := hJ
    obtain rfl := Option.some.inj hF
    exact rr_v S hr hlk hW dX11_takeBack_124
  · refine lpW (fun (xu1 : Int32 × SR) H locs ls => lv_has ls 5 [(0, .ref (ad 35)), (1, .int (((8 : Int32) * ((gz σ 20) - (1 : Int32))))), (2, .int xu1.1)] ∧ RW D ad cA kk xu1.2 s (RA ad) H locs) 12 (fun n xu1 => fR_takeBack_L12 (((8 : Int32) * ((gz σ 20) - (1 : Int32)))) n xu1.1 xu1.2) u1 (fun _ => rfl) (fun n xu1 ihu1 hF H locs ls hJ => ?_) 1000 ((0 : Int32), σ) hX _ _ _ ⟨lv_sub hl [2, 1, 0] rfl, hW⟩
    obtain ⟨hl, hW⟩ := hJ
    have hF : fR_takeBack_L12 (((8 : Int32) * ((gz σ 20) - (1 : Int32)))) (n + 1) xu1.1 xu1.2 = some u1 := hF
    rw [fR_takeBack_L12] at hF
    refine lv_iload_n S.1 S.2.1 dX11_takeBack_12 rfl (lv_at hl 2 rfl) ?_
    refine lv_aload_n S.1 S.2.1 dX11_takeBack_13 rfl (lv_at hl 0 rfl) ?_
    refine rg_members S hW dX11_takeBack_14 ?_
    refine lv_icmp_ge (tgt := 124) S.1 S.2.1 dX11_takeBack_17 (by decide) (fun hc => ?_) (fun hc => ?_)
    · have hF := it_pos hc hF
      obtain rfl := Option.some.inj hF
      exact Ju1 _ _ _ ⟨lv_sub hl [] rfl, hW⟩
    · have hF := it_neg hc hF
      refine lv_aload_n S.1 S.2.1 dX11_takeBack_20 rfl (lv_at hl 0 rfl) ?_
      refine rg_sentLast S hW dX11_takeBack_21 ?_
      refine lv_iload_n S.1 S.2.1 dX11_takeBack_24 rfl (lv_at hl 2 rfl) ?_
      obtain ⟨h3, hF⟩ := gd_of hF
      refine rl_sentLast S hW h3 dX11_takeBack_25 ?_
      obtain ⟨u4, hX, hF⟩ := bd_of hF
      refine jn1 (fun H locs ls => lv_has ls 5 [(0, .ref (ad 35)), (1, .int (((8 : Int32) * ((gz σ 20) - (1 : Int32))))), (2, .int xu1.1)] ∧ RW D ad cA kk u4 s (RA ad) H locs) 118 [] (fun H locs ls hJ => ?_) (fun Ju4 => ?_)
      · obtain ⟨hl, hW⟩ := hJ
        refine lv_iinc (v := (xu1.1 + (1 : Int32))) (lv' := [(2, .int ((xu1.1 + (1 : Int32)))), (0, .ref (ad 35)), (1, .int (((8 : Int32) * ((gz σ 20) - (1 : Int32)))))]) S.1 S.2.1 dX11_takeBack_118 hl (k := 2) rfl rfl (by decide) rfl (fun ls hl => ?_)
        refine lv_goto (tgt := 12) S.1 S.2.1 dX11_takeBack_121 (by decide) ?_
        exact ihu1 ((xu1.1 + (1 : Int32)), u4) hF _ _ _ ⟨lv_sub hl [1, 2, 0] rfl, hW⟩
      · have hF := hX
        refine lv_if_eq (tgt := 118) S.1 S.2.1 dX11_takeBack_26 (by decide) (fun hc => ?_) (fun hc => ?_)
        · have hF := it_pos hc hF
          obtain rfl := Option.some.inj hF
          exact Ju4 _ _ _ ⟨lv_sub hl [0, 1, 2] rfl, hW⟩
        · have hF := it_neg hc hF
          refine lv_aload_n S.1 S.2.1 dX11_takeBack_29 rfl (lv_at hl 0 rfl) ?_
          refine rg_refusedLast S hW dX11_takeBack_30 ?_
          refine lv_iload_n S.1 S.2.1 dX11_takeBack_33 rfl (lv_at hl 2 rfl) ?_
          refine rl_refusedLast S hW h3 dX11_takeBack_34 ?_
          refine lv_if_ne (tgt := 41) S.1 S.2.1 dX11_takeBack_35 (by decide) (fun hc => ?_) (fun hc => ?_)
          · have hF := it_neg hc hF
            refine lv_aload_n S.1 S.2.1 dX11_takeBack_41 rfl (lv_at hl 0 rfl) ?_
            refine rg_books S hW dX11_takeBack_42 ?_
            refine lv_iload_n S.1 S.2.1 dX11_takeBack_45 rfl (lv_at hl 1 rfl) ?_
            refine lv_iconst (v := (2 : Int32)) S.1 S.2.1 dX11_takeBack_46 (by decide) ?_
            refine lv_iadd S.1 S.2.1 dX11_takeBack_47 ?_
            refine lv_dup2_11 S.1 S.2.1 dX11_takeBack_48 rfl rfl ?_
            obtain ⟨h5, hF⟩ := gd_of hF
            refine rl_books S hW h5 dX11_takeBack_49 ?_
            refine lv_iconst (v := (1 : Int32)) S.1 S.2.1 dX11_takeBack_50 (by decide) ?_
            refine lv_iadd S.1 S.2.1 dX11_takeBack_51 ?_
            refine rs_books S hW h5 dX11_takeBack_52 (fun H locs hW => ?_)
            refine lv_aload_n S.1 S.2.1 dX11_takeBack_53 rfl (lv_at hl 0 rfl) ?_
            refine rg_books S hW dX11_takeBack_54 ?_
            refine lv_iload_n S.1 S.2.1 dX11_takeBack_57 rfl (lv_at hl 1 rfl) ?_
            refine lv_iconst (v := (4 : Int32)) S.1 S.2.1 dX11_takeBack_58 (by decide) ?_
            refine lv_iadd S.1 S.2.1 dX11_takeBack_59 ?_
            refine lv_dup2_11 S.1 S.2.1 dX11_takeBack_60 rfl rfl ?_
            obtain ⟨h6, hF⟩ := gd_of hF
            refine rl_books S hW h6 dX11_takeBack_61 ?_
            refine lv_iconst (v := (1 : Int32)) S.1 S.2.1 dX11_takeBack_62 (by decide) ?_
            refine lv_iadd S.1 S.2.1 dX11_takeBack_63 ?_
            refine rs_books S hW h6 dX11_takeBack_64 (fun H locs hW => ?_)
            refine lv_aload_n S.1 S.2.1 dX11_takeBack_65 rfl (lv_at hl 0 rfl) ?_
            refine rg_books S hW dX11_takeBack_66 ?_
            refine lv_iload_n S.1 S.2.1 dX11_takeBack_69 rfl (lv_at hl 1 rfl) ?_
            obtain ⟨h7, hF⟩ := gd_of hF
            refine rl_books S hW h7 dX11_takeBack_70 ?_
            refine lv_istore_n (lv' := [(3, .int ((gf (pf (pf xu1.2 21 ((((8 : Int32) * ((gz σ 20) - (1 : Int32))) + (2 : Int32))).toNatClampNeg (((gf xu1.2 21 ((((8 : Int32) * ((gz σ 20) - (1 : Int32))) + (2 : Int32))).toNatClampNeg) + (1 : Int32)))) 21 ((((8 : Int32) * ((gz σ 20) - (1 : Int32))) + (4 : Int32))).toNatClampNeg (((gf (pf xu1.2 21 ((((8 : Int32) * ((gz σ 20) - (1 : Int32))) + (2 : Int32))).toNatClampNeg (((gf xu1.2 21 ((((8 : Int32) * ((gz σ 20) - (1 : Int32))) + (2 : Int32))).toNatClampNeg) + (1 : Int32)))) 21 ((((8 : Int32) * ((gz σ 20) - (1 : Int32))) + (4 : Int32))).toNatClampNeg) + (1 : Int32)))) 21 (((8 : Int32) * ((gz σ 20) - (1 : Int32)))).toNatClampNeg))), (0, .ref (ad 35)), (1, .int (((8 : Int32) * ((gz σ 20) - (1 : Int32))))), (2, .int xu1.1)]) S.1 S.2.1 dX11_takeBack_71 rfl hl (by decide) rfl (fun ls hl => ?_)
            refine lv_iload_n S.1 S.2.1 dX11_takeBack_72 rfl (lv_at hl 0 rfl) ?_
            refine lv_if_ne (tgt := 79) S.1 S.2.1 dX11_takeBack_73 (by decide) (fun hc => ?_) (fun hc => ?_)
            · have hF := it_neg hc hF
              refine lv_aload_n S.1 S.2.1 dX11_takeBack_79 rfl (lv_at hl 1 rfl) ?_
              refine lv_iload_n S.1 S.2.1 dX11_takeBack_80 rfl (lv_at hl 3 rfl) ?_
              refine lv_iconst (v := (3 : Int32)) S.1 S.2.1 dX11_takeBack_81 (by decide) ?_
              refine lv_iload_n S.1 S.2.1 dX11_takeBack_82 rfl (lv_at hl 0 rfl) ?_
              refine lv_i2l (v := ((gf (pf (pf xu1.2 21 ((((8 : Int32) * ((gz σ 20) - (1 : Int32))) + (2 : Int32))).toNatClampNeg (((gf xu1.2 21 ((((8 : Int32) * ((gz σ 20) - (1 : Int32))) + (2 : Int32))).toNatClampNeg) + (1 : Int32)))) 21 ((((8 : Int32) * ((gz σ 20) - (1 : Int32))) + (4 : Int32))).toNatClampNeg (((gf (pf xu1.2 21 ((((8 : Int32) * ((gz σ 20) - (1 : Int32))) + (2 : Int32))).toNatClampNeg (((gf xu1.2 21 ((((8 : Int32) * ((gz σ 20) - (1 : Int32))) + (2 : Int32))).toNatClampNeg) + (1 : Int32)))) 21 ((((8 : Int32) * ((gz σ 20) - (1 : Int32))) + (4 : Int32))).toNatClampNeg) + (1 : Int32)))) 21 (((8 : Int32) * ((gz σ 20) - (1 : Int32)))).toNatClampNeg)).toInt64) S.1 S.2.1 dX11_takeBack_83 rfl ?_
              obtain ⟨u8, hu8, hF⟩ := bd_of hF
              refine rc_v (k := 3) (As := [.int xu1.1, .int ((3 : Int32)), .long (((gf (pf (pf xu1.2 21 ((((8 : Int32) * ((gz σ 20) - (1 : Int32))) + (2 : Int32))).toNatClampNeg (((gf xu1.2 21 ((((8 : Int32) * ((gz σ 20) - (1 : Int32))) + (2 : Int32))).toNatClampNeg) + (1 : Int32)))) 21 ((((8 : Int32) * ((gz σ 20) - (1 : Int32))) + (4 : Int32))).toNatClampNeg (((gf (pf xu1.2 21 ((((8 : Int32) * ((gz σ 20) - (1 : Int32))) + (2 : Int32))).toNatClampNeg (((gf xu1.2 21 ((((8 : Int32) * ((gz σ 20) - (1 : Int32))) + (2 : Int32))).toNatClampNeg) + (1 : Int32)))) 21 ((((8 : Int32) * ((gz σ 20) - (1 : Int32))) + (4 : Int32))).toNatClampNeg) + (1 : Int32)))) 21 (((8 : Int32) * ((gz σ 20) - (1 : Int32)))).toNatClampNeg)).toInt64)]) (rest := []) (cR_enter l D ad cA kk hd hu8) hd (fun _ h => h) S hW (gd_V m_566 m_567 m_568 m_5 m_569) (by decide +kernel) ⟨Nat.le_of_ble_eq_true rfl, Nat.le_of_ble_eq_true rfl⟩ rfl hl.1 rfl (Nat.le_of_ble_eq_true rfl) ⟨Nat.le_of_ble_eq_true rfl, Nat.le_of_ble_eq_true rfl⟩ dX11_takeBack_84 (fun H locs hW => ?_)
              refine lv_iload_n S.1 S.2.1 dX11_takeBack_87 rfl (lv_at hl 0 rfl) ?_
              refine lv_aload_n S.1 S.2.1 dX11_takeBack_88 rfl (lv_at hl 1 rfl) ?_
              refine lv_iconst (v := (1 : Int32)) S.1 S.2.1 dX11_takeBack_89 (by decide) ?_
              refine lv_aload_n S.1 S.2.1 dX11_takeBack_90 rfl (lv_at hl 1 rfl) ?_
              refine rg_month S hW dX11_takeBack_91 ?_
              obtain ⟨u9, hu9, hF⟩ := bd_of hF
              refine rc_i (k := 2) (As := [.int ((1 : Int32)), .int ((gz u8 20))]) (rest := [.int ((gf (pf (pf xu1.2 21 ((((8 : Int32) * ((gz σ 20) - (1 : Int32))) + (2 : Int32))).toNatClampNeg (((gf xu1.2 21 ((((8 : Int32) * ((gz σ 20) - (1 : Int32))) + (2 : Int32))).toNatClampNeg) + (1 : Int32)))) 21 ((((8 : Int32) * ((gz σ 20) - (1 : Int32))) + (4 : Int32))).toNatClampNeg (((gf (pf xu1.2 21 ((((8 : Int32) * ((gz σ 20) - (1 : Int32))) + (2 : Int32))).toNatClampNeg (((gf xu1.2 21 ((((8 : Int32) * ((gz σ 20) - (1 : Int32))) + (2 : Int32))).toNatClampNeg) + (1 : Int32)))) 21 ((((8 : Int32) * ((gz σ 20) - (1 : Int32))) + (4 : Int32))).toNatClampNeg) + (1 : Int32)))) 21 (((8 : Int32) * ((gz σ 20) - (1 : Int32)))).toNatClampNeg))]) (cR_ruleOf l D ad cA kk hd hu9) hd (fun _ h => h) S hW (gd_V m_483 m_484 m_485 m_5 m_486) (by decide +kernel) ⟨Nat.le_of_ble_eq_true rfl, Nat.le_of_ble_eq_true rfl⟩ rfl hl.1 rfl (Nat.le_of_ble_eq_true rfl) ⟨Nat.le_of_ble_eq_true rfl, Nat.le_of_ble_eq_true rfl⟩ dX11_takeBack_94 (fun H locs hW => ?_)
              refine lv_imul S.1 S.2.1 dX11_takeBack_97 ?_
              refine lv_bipush (v := (100 : Int32)) S.1 S.2.1 dX11_takeBack_98 (by decide) ?_
              refine lv_idiv S.1 S.2.1 dX11_takeBack_100 (by decide) ?_
              refine lv_istore (lv' := [(4, .int ((((gf (pf (pf xu1.2 21 ((((8 : Int32) * ((gz σ 20) - (1 : Int32))) + (2 : Int32))).toNatClampNeg (((gf xu1.2 21 ((((8 : Int32) * ((gz σ 20) - (1 : Int32))) + (2 : Int32))).toNatClampNeg) + (1 : Int32)))) 21 ((((8 : Int32) * ((gz σ 20) - (1 : Int32))) + (4 : Int32))).toNatClampNeg (((gf (pf xu1.2 21 ((((8 : Int32) * ((gz σ 20) - (1 : Int32))) + (2 : Int32))).toNatClampNeg (((gf xu1.2 21 ((((8 : Int32) * ((gz σ 20) - (1 : Int32))) + (2 : Int32))).toNatClampNeg) + (1 : Int32)))) 21 ((((8 : Int32) * ((gz σ 20) - (1 : Int32))) + (4 : Int32))).toNatClampNeg) + (1 : Int32)))) 21 (((8 : Int32) * ((gz σ 20) - (1 : Int32)))).toNatClampNeg) * u9) / (100 : Int32)))), (3, .int ((gf (pf (pf xu1.2 21 ((((8 : Int32) * ((gz σ 20) - (1 : Int32))) + (2 : Int32))).toNatClampNeg (((gf xu1.2 21 ((((8 : Int32) * ((gz σ 20) - (1 : Int32))) + (2 : Int32))).toNatClampNeg) + (1 : Int32)))) 21 ((((8 : Int32) * ((gz σ 20) - (1 : Int32))) + (4 : Int32))).toNatClampNeg (((gf (pf xu1.2 21 ((((8 : Int32) * ((gz σ 20) - (1 : Int32))) + (2 : Int32))).toNatClampNeg (((gf xu1.2 21 ((((8 : Int32) * ((gz σ 20) - (1 : Int32))) + (2 : Int32))).toNatClampNeg) + (1 : Int32)))) 21 ((((8 : Int32) * ((gz σ 20) - (1 : Int32))) + (4 : Int32))).toNatClampNeg) + (1 : Int32)))) 21 (((8 : Int32) * ((gz σ 20) - (1 : Int32)))).toNatClampNeg))), (0, .ref (ad 35)), (1, .int (((8 : Int32) * ((gz σ 20) - (1 : Int32))))), (2, .int xu1.1)]) S.1 S.2.1 dX11_takeBack_101 hl (by decide) rfl (fun ls hl => ?_)
              refine lv_iload S.1 S.2.1 dX11_takeBack_103 (lv_at hl 0 rfl) ?_
              refine lv_if_le (tgt := 118) S.1 S.2.1 dX11_takeBack_105 (by decide) (fun hc => ?_) (fun hc => ?_)
              · have hF := it_pos hc hF
                obtain rfl := Option.some.inj hF
                exact Ju4 _ _ _ ⟨lv_sub hl [2, 3, 4] rfl, hW⟩
              · have hF := it_neg hc hF
                refine lv_aload_n S.1 S.2.1 dX11_takeBack_108 rfl (lv_at hl 2 rfl) ?_
                refine lv_iload_n S.1 S.2.1 dX11_takeBack_109 rfl (lv_at hl 4 rfl) ?_
                refine lv_iconst (v := (4 : Int32)) S.1 S.2.1 dX11_takeBack_110 (by decide) ?_
                refine lv_iload S.1 S.2.1 dX11_takeBack_111 (lv_at hl 0 rfl) ?_
                refine lv_ineg S.1 S.2.1 dX11_takeBack_113 ?_
                refine lv_i2l (v := ((-(((gf (pf (pf xu1.2 21 ((((8 : Int32) * ((gz σ 20) - (1 : Int32))) + (2 : Int32))).toNatClampNeg (((gf xu1.2 21 ((((8 : Int32) * ((gz σ 20) - (1 : Int32))) + (2 : Int32))).toNatClampNeg) + (1 : Int32)))) 21 ((((8 : Int32) * ((gz σ 20) - (1 : Int32))) + (4 : Int32))).toNatClampNeg (((gf (pf xu1.2 21 ((((8 : Int32) * ((gz σ 20) - (1 : Int32))) + (2 : Int32))).toNatClampNeg (((gf xu1.2 21 ((((8 : Int32) * ((gz σ 20) - (1 : Int32))) + (2 : Int32))).toNatClampNeg) + (1 : Int32)))) 21 ((((8 : Int32) * ((gz σ 20) - (1 : Int32))) + (4 : Int32))).toNatClampNeg) + (1 : Int32)))) 21 (((8 : Int32) * ((gz σ 20) - (1 : Int32)))).toNatClampNeg) * u9) / (100 : Int32)))).toInt64) S.1 S.2.1 dX11_takeBack_114 rfl ?_
                obtain ⟨u10, hu10, hF⟩ := bd_of hF
                refine rc_v (k := 3) (As := [.int xu1.1, .int ((4 : Int32)), .long (((-(((gf (pf (pf xu1.2 21 ((((8 : Int32) * ((gz σ 20) - (1 : Int32))) + (2 : Int32))).toNatClampNeg (((gf xu1.2 21 ((((8 : Int32) * ((gz σ 20) - (1 : Int32))) + (2 : Int32))).toNatClampNeg) + (1 : Int32)))) 21 ((((8 : Int32) * ((gz σ 20) - (1 : Int32))) + (4 : Int32))).toNatClampNeg (((gf (pf xu1.2 21 ((((8 : Int32) * ((gz σ 20) - (1 : Int32))) + (2 : Int32))).toNatClampNeg (((gf xu1.2 21 ((((8 : Int32) * ((gz σ 20) - (1 : Int32))) + (2 : Int32))).toNatClampNeg) + (1 : Int32)))) 21 ((((8 : Int32) * ((gz σ 20) - (1 : Int32))) + (4 : Int32))).toNatClampNeg) + (1 : Int32)))) 21 (((8 : Int32) * ((gz σ 20) - (1 : Int32)))).toNatClampNeg) * u9) / (100 : Int32)))).toInt64)]) (rest := []) (cR_enter l D ad cA kk hd hu10) hd (fun _ h => h) S hW (gd_V m_566 m_567 m_568 m_5 m_569) (by decide +kernel) ⟨Nat.le_of_ble_eq_true rfl, Nat.le_of_ble_eq_true rfl⟩ rfl hl.1 rfl (Nat.le_of_ble_eq_true rfl) ⟨Nat.le_of_ble_eq_true rfl, Nat.le_of_ble_eq_true rfl⟩ dX11_takeBack_115 (fun H locs hW => ?_)
                obtain rfl := Option.some.inj hF
                exact Ju4 _ _ _ ⟨lv_sub hl [2, 3, 4] rfl, hW⟩
            · have hF := it_pos hc hF
              refine lv_goto (tgt := 118) S.1 S.2.1 dX11_takeBack_76 (by decide) ?_
              obtain rfl := Option.some.inj hF
              exact Ju4 _ _ _ ⟨lv_sub hl [1, 2, 3] rfl, hW⟩
          · have hF := it_pos hc hF
            refine lv_goto (tgt := 118) S.1 S.2.1 dX11_takeBack_38 (by decide) ?_
            obtain rfl := Option.some.inj hF
            exact Ju4 _ _ _ ⟨lv_sub hl [0, 1, 2] rfl, hW⟩
def fR_sendAll_L20 (l1 : Int32) (l2 : Int32) : Nat → Int32 → Int32 → SR → Option (Int32 × SR)
  | 0, _, _, _ => none
  | n + 1, x3, x4, σ =>
    if (gz σ 19) ≤ x4 then
    some ((x3, σ))
    else
    if x4 < 0 ∨ 40 ≤ (x4).toNatClampNeg then none else
    Option.bind (if (gf (pf (pf σ 16 (x4).toNatClampNeg ((0 : Int32))) 17 (x4).toNatClampNeg ((0 : Int32))) 15 (x4).toNatClampNeg) ≤ 0 then
    some ((0 : Int32))
    else
    some ((1 : Int32))) (fun u2 =>
    Option.bind (if (gf (pf (pf (pf σ 16 (x4).toNatClampNeg ((0 : Int32))) 17 (x4).toNatClampNeg ((0 : Int32))) 18 (x4).toNatClampNeg ((vp_nar .boolean u2))) 12 (x4).toNatClampNeg) = 0 then
    if (gf (pf (pf (pf σ 16 (x4).toNatClampNeg ((0 : Int32))) 17 (x4).toNatClampNeg ((0 : Int32))) 18 (x4).toNatClampNeg ((vp_nar .boolean u2))) 15 (x4).toNatClampNeg) ≤ 0 then
    if (l1 + (2 : Int32)) < 0 ∨ 488 ≤ ((l1 + (2 : Int32))).toNatClampNeg then none else
    if (gf (pf (pf (pf σ 16 (x4).toNatClampNeg ((0 : Int32))) 17 (x4).toNatClampNeg ((0 : Int32))) 18 (x4).toNatClampNeg ((vp_nar .boolean u2))) 21 ((l1 + (2 : Int32))).toNatClampNeg) = 0 then
    if (l1 + (7 : Int32)) < 0 ∨ 488 ≤ ((l1 + (7 : Int32))).toNatClampNeg then none else
    some (x3, pf (pf (pf (pf (pf σ 16 (x4).toNatClampNeg ((0 : Int32))) 17 (x4).toNatClampNeg ((0 : Int32))) 18 (x4).toNatClampNeg ((vp_nar .boolean u2))) 17 (x4).toNatClampNeg ((1 : Int32))) 21 ((l1 + (7 : Int32))).toNatClampNeg (((gf (pf (pf (pf (pf σ 16 (x4).toNatClampNeg ((0 : Int32))) 17 (x4).toNatClampNeg ((0 : Int32))) 18 (x4).toNatClampNeg ((vp_nar .boolean u2))) 17 (x4).toNatClampNeg ((1 : Int32))) 21 ((l1 + (7 : Int32))).toNatClampNeg) + (1 : Int32))))
    else
    if (l1 + (3 : Int32)) < 0 ∨ 488 ≤ ((l1 + (3 : Int32))).toNatClampNeg then none else
    Option.bind (if l2 ≤ 0 then
    some (pf (pf (pf (pf (pf (pf σ 16 (x4).toNatClampNeg ((0 : Int32))) 17 (x4).toNatClampNeg ((0 : Int32))) 18 (x4).toNatClampNeg ((vp_nar .boolean u2))) 16 (x4).toNatClampNeg ((1 : Int32))) 21 ((l1 + (2 : Int32))).toNatClampNeg (((gf (pf (pf (pf (pf σ 16 (x4).toNatClampNeg ((0 : Int32))) 17 (x4).toNatClampNeg ((0 : Int32))) 18 (x4).toNatClampNeg ((vp_nar .boolean u2))) 16 (x4).toNatClampNeg ((1 : Int32))) 21 ((l1 + (2 : Int32))).toNatClampNeg) - (1 : Int32)))) 21 ((l1 + (3 : Int32))).toNatClampNeg (((gf (pf (pf (pf (pf (pf σ 16 (x4).toNatClampNeg ((0 : Int32))) 17 (x4).toNatClampNeg ((0 : Int32))) 18 (x4).toNatClampNeg ((vp_nar .boolean u2))) 16 (x4).toNatClampNeg ((1 : Int32))) 21 ((l1 + (2 : Int32))).toNatClampNeg (((gf (pf (pf (pf (pf σ 16 (x4).toNatClampNeg ((0 : Int32))) 17 (x4).toNatClampNeg ((0 : Int32))) 18 (x4).toNatClampNeg ((vp_nar .boolean u2))) 16 (x4).toNatClampNeg ((1 : Int32))) 21 ((l1 + (2 : Int32))).toNatClampNeg) - (1 : Int32)))) 21 ((l1 + (3 : Int32))).toNatClampNeg) + (1 : Int32))))
    else
    Option.bind (fR_enter (pf (pf (pf (pf (pf (pf σ 16 (x4).toNatClampNeg ((0 : Int32))) 17 (x4).toNatClampNeg ((0 : Int32))) 18 (x4).toNatClampNeg ((vp_nar .boolean u2))) 16 (x4).toNatClampNeg ((1 : Int32))) 21 ((l1 + (2 : Int32))).toNatClampNeg (((gf (pf (pf (pf (pf σ 16 (x4).toNatClampNeg ((0 : Int32))) 17 (x4).toNatClampNeg ((0 : Int32))) 18 (x4).toNatClampNeg ((vp_nar .boolean u2))) 16 (x4).toNatClampNeg ((1 : Int32))) 21 ((l1 + (2 : Int32))).toNatClampNeg) - (1 : Int32)))) 21 ((l1 + (3 : Int32))).toNatClampNeg (((gf (pf (pf (pf (pf (pf σ 16 (x4).toNatClampNeg ((0 : Int32))) 17 (x4).toNatClampNeg ((0 : Int32))) 18 (x4).toNatClampNeg ((vp_nar .boolean u2))) 16 (x4).toNatClampNeg ((1 : Int32))) 21 ((l1 + (2 : Int32))).toNatClampNeg (((gf (pf (pf (pf (pf σ 16 (x4).toNatClampNeg ((0 : Int32))) 17 (x4).toNatClampNeg ((0 : Int32))) 18 (x4).toNatClampNeg ((vp_nar .boolean u2))) 16 (x4).toNatClampNeg ((1 : Int32))) 21 ((l1 + (2 : Int32))).toNatClampNeg) - (1 : Int32)))) 21 ((l1 + (3 : Int32))).toNatClampNeg) + (1 : Int32)))) x4 ((2 : Int32)) (((-l2)).toInt64)) (fun u7 =>
    some (u7))) (fun u6 =>
    Option.bind (fR_ruleOf (pf u6 13 (x4).toNatClampNeg (((gf u6 13 (x4).toNatClampNeg) + (1 : Int32)))) ((2 : Int32)) ((gz (pf u6 13 (x4).toNatClampNeg (((gf u6 13 (x4).toNatClampNeg) + (1 : Int32)))) 20))) (fun u8 =>
    Option.bind (fR_ruleOf (pf u6 13 (x4).toNatClampNeg (((gf u6 13 (x4).toNatClampNeg) + (1 : Int32)))) ((7 : Int32)) ((gz (pf u6 13 (x4).toNatClampNeg (((gf u6 13 (x4).toNatClampNeg) + (1 : Int32)))) 20))) (fun u9 =>
    if u8 ≤ 0 then
    some ((x3 + (1 : Int32)), pf u6 13 (x4).toNatClampNeg (((gf u6 13 (x4).toNatClampNeg) + (1 : Int32))))
    else
    if u8 = 0 then none else
    if ((gf (pf u6 13 (x4).toNatClampNeg (((gf u6 13 (x4).toNatClampNeg) + (1 : Int32)))) 13 (x4).toNatClampNeg) - (gf (pf u6 13 (x4).toNatClampNeg (((gf u6 13 (x4).toNatClampNeg) + (1 : Int32)))) 13 (x4).toNatClampNeg) / u8 * u8) = 0 then
    if ((u9 * l2) / (100 : Int32)) ≤ 0 then
    some ((x3 + (1 : Int32)), pf u6 13 (x4).toNatClampNeg (((gf u6 13 (x4).toNatClampNeg) + (1 : Int32))))
    else
    Option.bind (fR_enter (pf u6 13 (x4).toNatClampNeg (((gf u6 13 (x4).toNatClampNeg) + (1 : Int32)))) x4 ((5 : Int32)) ((((u9 * l2) / (100 : Int32))).toInt64)) (fun u11 =>
    some ((x3 + (1 : Int32)), u11))
    else
    some ((x3 + (1 : Int32)), pf u6 13 (x4).toNatClampNeg (((gf u6 13 (x4).toNatClampNeg) + (1 : Int32)))))))
    else
    Option.bind (fR_ruleOf (pf (pf (pf σ 16 (x4).toNatClampNeg ((0 : Int32))) 17 (x4).toNatClampNeg ((0 : Int32))) 18 (x4).toNatClampNeg ((vp_nar .boolean u2))) ((0 : Int32)) ((gz (pf (pf (pf σ 16 (x4).toNatClampNeg ((0 : Int32))) 17 (x4).toNatClampNeg ((0 : Int32))) 18 (x4).toNatClampNeg ((vp_nar .boolean u2))) 20))) (fun u13 =>
    if u13 < (gf (pf (pf (pf σ 16 (x4).toNatClampNeg ((0 : Int32))) 17 (x4).toNatClampNeg ((0 : Int32))) 18 (x4).toNatClampNeg ((vp_nar .boolean u2))) 15 (x4).toNatClampNeg) then
    if (l1 + (2 : Int32)) < 0 ∨ 488 ≤ ((l1 + (2 : Int32))).toNatClampNeg then none else
    if (gf (pf (pf (pf σ 16 (x4).toNatClampNeg ((0 : Int32))) 17 (x4).toNatClampNeg ((0 : Int32))) 18 (x4).toNatClampNeg ((vp_nar .boolean u2))) 21 ((l1 + (2 : Int32))).toNatClampNeg) = 0 then
    if (l1 + (7 : Int32)) < 0 ∨ 488 ≤ ((l1 + (7 : Int32))).toNatClampNeg then none else
    some (x3, pf (pf (pf (pf (pf σ 16 (x4).toNatClampNeg ((0 : Int32))) 17 (x4).toNatClampNeg ((0 : Int32))) 18 (x4).toNatClampNeg ((vp_nar .boolean u2))) 17 (x4).toNatClampNeg ((1 : Int32))) 21 ((l1 + (7 : Int32))).toNatClampNeg (((gf (pf (pf (pf (pf σ 16 (x4).toNatClampNeg ((0 : Int32))) 17 (x4).toNatClampNeg ((0 : Int32))) 18 (x4).toNatClampNeg ((vp_nar .boolean u2))) 17 (x4).toNatClampNeg ((1 : Int32))) 21 ((l1 + (7 : Int32))).toNatClampNeg) + (1 : Int32))))
    else
    if (l1 + (3 : Int32)) < 0 ∨ 488 ≤ ((l1 + (3 : Int32))).toNatClampNeg then none else
    Option.bind (if l2 ≤ 0 then
    some (pf (pf (pf (pf (pf (pf σ 16 (x4).toNatClampNeg ((0 : Int32))) 17 (x4).toNatClampNeg ((0 : Int32))) 18 (x4).toNatClampNeg ((vp_nar .boolean u2))) 16 (x4).toNatClampNeg ((1 : Int32))) 21 ((l1 + (2 : Int32))).toNatClampNeg (((gf (pf (pf (pf (pf σ 16 (x4).toNatClampNeg ((0 : Int32))) 17 (x4).toNatClampNeg ((0 : Int32))) 18 (x4).toNatClampNeg ((vp_nar .boolean u2))) 16 (x4).toNatClampNeg ((1 : Int32))) 21 ((l1 + (2 : Int32))).toNatClampNeg) - (1 : Int32)))) 21 ((l1 + (3 : Int32))).toNatClampNeg (((gf (pf (pf (pf (pf (pf σ 16 (x4).toNatClampNeg ((0 : Int32))) 17 (x4).toNatClampNeg ((0 : Int32))) 18 (x4).toNatClampNeg ((vp_nar .boolean u2))) 16 (x4).toNatClampNeg ((1 : Int32))) 21 ((l1 + (2 : Int32))).toNatClampNeg (((gf (pf (pf (pf (pf σ 16 (x4).toNatClampNeg ((0 : Int32))) 17 (x4).toNatClampNeg ((0 : Int32))) 18 (x4).toNatClampNeg ((vp_nar .boolean u2))) 16 (x4).toNatClampNeg ((1 : Int32))) 21 ((l1 + (2 : Int32))).toNatClampNeg) - (1 : Int32)))) 21 ((l1 + (3 : Int32))).toNatClampNeg) + (1 : Int32))))
    else
    Option.bind (fR_enter (pf (pf (pf (pf (pf (pf σ 16 (x4).toNatClampNeg ((0 : Int32))) 17 (x4).toNatClampNeg ((0 : Int32))) 18 (x4).toNatClampNeg ((vp_nar .boolean u2))) 16 (x4).toNatClampNeg ((1 : Int32))) 21 ((l1 + (2 : Int32))).toNatClampNeg (((gf (pf (pf (pf (pf σ 16 (x4).toNatClampNeg ((0 : Int32))) 17 (x4).toNatClampNeg ((0 : Int32))) 18 (x4).toNatClampNeg ((vp_nar .boolean u2))) 16 (x4).toNatClampNeg ((1 : Int32))) 21 ((l1 + (2 : Int32))).toNatClampNeg) - (1 : Int32)))) 21 ((l1 + (3 : Int32))).toNatClampNeg (((gf (pf (pf (pf (pf (pf σ 16 (x4).toNatClampNeg ((0 : Int32))) 17 (x4).toNatClampNeg ((0 : Int32))) 18 (x4).toNatClampNeg ((vp_nar .boolean u2))) 16 (x4).toNatClampNeg ((1 : Int32))) 21 ((l1 + (2 : Int32))).toNatClampNeg (((gf (pf (pf (pf (pf σ 16 (x4).toNatClampNeg ((0 : Int32))) 17 (x4).toNatClampNeg ((0 : Int32))) 18 (x4).toNatClampNeg ((vp_nar .boolean u2))) 16 (x4).toNatClampNeg ((1 : Int32))) 21 ((l1 + (2 : Int32))).toNatClampNeg) - (1 : Int32)))) 21 ((l1 + (3 : Int32))).toNatClampNeg) + (1 : Int32)))) x4 ((2 : Int32)) (((-l2)).toInt64)) (fun u17 =>
    some (u17))) (fun u16 =>
    Option.bind (fR_ruleOf (pf u16 13 (x4).toNatClampNeg (((gf u16 13 (x4).toNatClampNeg) + (1 : Int32)))) ((2 : Int32)) ((gz (pf u16 13 (x4).toNatClampNeg (((gf u16 13 (x4).toNatClampNeg) + (1 : Int32)))) 20))) (fun u18 =>
    Option.bind (fR_ruleOf (pf u16 13 (x4).toNatClampNeg (((gf u16 13 (x4).toNatClampNeg) + (1 : Int32)))) ((7 : Int32)) ((gz (pf u16 13 (x4).toNatClampNeg (((gf u16 13 (x4).toNatClampNeg) + (1 : Int32)))) 20))) (fun u19 =>
    if u18 ≤ 0 then
    some ((x3 + (1 : Int32)), pf u16 13 (x4).toNatClampNeg (((gf u16 13 (x4).toNatClampNeg) + (1 : Int32))))
    else
    if u18 = 0 then none else
    if ((gf (pf u16 13 (x4).toNatClampNeg (((gf u16 13 (x4).toNatClampNeg) + (1 : Int32)))) 13 (x4).toNatClampNeg) - (gf (pf u16 13 (x4).toNatClampNeg (((gf u16 13 (x4).toNatClampNeg) + (1 : Int32)))) 13 (x4).toNatClampNeg) / u18 * u18) = 0 then
    if ((u19 * l2) / (100 : Int32)) ≤ 0 then
    some ((x3 + (1 : Int32)), pf u16 13 (x4).toNatClampNeg (((gf u16 13 (x4).toNatClampNeg) + (1 : Int32))))
    else
    Option.bind (fR_enter (pf u16 13 (x4).toNatClampNeg (((gf u16 13 (x4).toNatClampNeg) + (1 : Int32)))) x4 ((5 : Int32)) ((((u19 * l2) / (100 : Int32))).toInt64)) (fun u21 =>
    some ((x3 + (1 : Int32)), u21))
    else
    some ((x3 + (1 : Int32)), pf u16 13 (x4).toNatClampNeg (((gf u16 13 (x4).toNatClampNeg) + (1 : Int32)))))))
    else
    some (x3, pf (pf (pf σ 16 (x4).toNatClampNeg ((0 : Int32))) 17 (x4).toNatClampNeg ((0 : Int32))) 18 (x4).toNatClampNeg ((vp_nar .boolean u2))))
    else
    some (x3, pf (pf (pf σ 16 (x4).toNatClampNeg ((0 : Int32))) 17 (x4).toNatClampNeg ((0 : Int32))) 18 (x4).toNatClampNeg ((vp_nar .boolean u2)))) (fun u3 =>
    fR_sendAll_L20 l1 l2 n u3.1 ((x4 + (1 : Int32))) u3.2))
def fR_sendAll (σ : SR) : Option (Int32 × SR) :=
  if ((8 : Int32) * (gz σ 20)) < 0 ∨ 488 ≤ (((8 : Int32) * (gz σ 20))).toNatClampNeg then none else
  Option.bind (fR_sendAll_L20 (((8 : Int32) * (gz σ 20))) ((gf σ 21 (((8 : Int32) * (gz σ 20))).toNatClampNeg)) 1000 ((0 : Int32)) ((0 : Int32)) σ) (fun u2 =>
  some (u2.1, u2.2))
set_option maxRecDepth 100000 in
set_option maxHeartbeats 4000000 in
theorem cR_sendAll (l : Launch) (D : va_G) (ad : Nat → Nat) (cA : Nat → ClassId) (kk : Nat → Nat) (hd : RD ad) {σ : SR} {o : Int32 × SR} (hF : fR_sendAll σ = some o) : Mi l yX11_sendAll cX11_sendAll 7 .int { frames := 1, cells := 0, slots := 0, locals := 24 } [.ref (ad 35)] (RP D ad cA kk σ) o.1 (RP D ad cA kk (o.2)) (RA ad) := by
  refine Mi.of (own := RX11) rfl (by decide +kernel) (Nat.le_of_ble_eq_true rfl) ?_
  intro p e s m args below meth c ls S hr hlk hP hl
  have hW := RW.start hd hP
  have hl : lv_has ls 7 [(0, .ref (ad 35))] := hl
  rw [fR_sendAll] at hF
  refine lv_bipush (v := (8 : Int32)) S.1 S.2.1 dX11_sendAll_0 (by decide) ?_
  refine lv_aload_n S.1 S.2.1 dX11_sendAll_2 rfl (lv_at hl 0 rfl) ?_
  refine rg_month S hW dX11_sendAll_3 ?_
  refine lv_imul S.1 S.2.1 dX11_sendAll_6 ?_
  refine lv_istore_n (lv' := [(1, .int (((8 : Int32) * (gz σ 20)))), (0, .ref (ad 35))]) S.1 S.2.1 dX11_sendAll_7 rfl hl (by decide) rfl (fun ls hl => ?_)
  refine lv_aload_n S.1 S.2.1 dX11_sendAll_8 rfl (lv_at hl 1 rfl) ?_
  refine rg_books S hW dX11_sendAll_9 ?_
  refine lv_iload_n S.1 S.2.1 dX11_sendAll_12 rfl (lv_at hl 0 rfl) ?_
  obtain ⟨h1, hF⟩ := gd_of hF
  refine rl_books S hW h1 dX11_sendAll_13 ?_
  refine lv_istore_n (lv' := [(2, .int ((gf σ 21 (((8 : Int32) * (gz σ 20))).toNatClampNeg))), (1, .int (((8 : Int32) * (gz σ 20)))), (0, .ref (ad 35))]) S.1 S.2.1 dX11_sendAll_14 rfl hl (by decide) rfl (fun ls hl => ?_)
  refine lv_iconst (v := (0 : Int32)) S.1 S.2.1 dX11_sendAll_15 (by decide) ?_
  refine lv_istore_n (lv' := [(3, .int ((0 : Int32))), (2, .int ((gf σ 21 (((8 : Int32) * (gz σ 20))).toNatClampNeg))), (1, .int (((8 : Int32) * (gz σ 20)))), (0, .ref (ad 35))]) S.1 S.2.1 dX11_sendAll_16 rfl hl (by decide) rfl (fun ls hl => ?_)
  refine lv_iconst (v := (0 : Int32)) S.1 S.2.1 dX11_sendAll_17 (by decide) ?_
  refine lv_istore (lv' := [(4, .int ((0 : Int32))), (3, .int ((0 : Int32))), (2, .int ((gf σ 21 (((8 : Int32) * (gz σ 20))).toNatClampNeg))), (1, .int (((8 : Int32) * (gz σ 20)))), (0, .ref (ad 35))]) S.1 S.2.1 dX11_sendAll_18 hl (by decide) rfl (fun ls hl => ?_)
  obtain ⟨u2, hX, hF⟩ := bd_of hF
  refine jn1 (fun H locs ls => lv_has ls 7 [(3, .int u2.1)] ∧ RW D ad cA kk u2.2 s (RA ad) H locs) 271 [] (fun H locs ls hJ => ?_) (fun Ju2 => ?_)
  · obtain ⟨hl, hW⟩ := hJ
    refine lv_iload_n S.1 S.2.1 dX11_sendAll_271 rfl (lv_at hl 0 rfl) ?_
    obtain rfl := Option.some.inj hF
    exact rr_i S hr hlk hW rfl rfl dX11_sendAll_272
  · refine lpW (fun (xu2 : Int32 × Int32 × SR) H locs ls => lv_has ls 7 [(0, .ref (ad 35)), (1, .int (((8 : Int32) * (gz σ 20)))), (2, .int ((gf σ 21 (((8 : Int32) * (gz σ 20))).toNatClampNeg))), (3, .int xu2.1), (4, .int xu2.2.1)] ∧ RW D ad cA kk xu2.2.2 s (RA ad) H locs) 20 (fun n xu2 => fR_sendAll_L20 (((8 : Int32) * (gz σ 20))) ((gf σ 21 (((8 : Int32) * (gz σ 20))).toNatClampNeg)) n xu2.1 xu2.2.1 xu2.2.2) u2 (fun _ => rfl) (fun n xu2 ihu2 hF H locs ls hJ => ?_) 1000 ((0 : Int32), (0 : Int32), σ) hX _ _ _ ⟨lv_sub hl [4, 3, 2, 1, 0] rfl, hW⟩
    obtain ⟨hl, hW⟩ := hJ
    have hF : fR_sendAll_L20 (((8 : Int32) * (gz σ 20))) ((gf σ 21 (((8 : Int32) * (gz σ 20))).toNatClampNeg)) (n + 1) xu2.1 xu2.2.1 xu2.2.2 = some u2 := hF
    rw [fR_sendAll_L20] at hF
    refine lv_iload S.1 S.2.1 dX11_sendAll_20 (lv_at hl 4 rfl) ?_
    refine lv_aload_n S.1 S.2.1 dX11_sendAll_22 rfl (lv_at hl 0 rfl) ?_
    refine rg_members S hW dX11_sendAll_23 ?_
    refine lv_icmp_ge (tgt := 271) S.1 S.2.1 dX11_sendAll_26 (by decide) (fun hc => ?_) (fun hc => ?_)
    · have hF := it_pos hc hF
      obtain rfl := Option.some.inj hF
      exact Ju2 _ _ _ ⟨lv_sub hl [3] rfl, hW⟩
    · have hF := it_neg hc hF
      refine lv_aload_n S.1 S.2.1 dX11_sendAll_29 rfl (lv_at hl 0 rfl) ?_
      refine rg_sentLast S hW dX11_sendAll_30 ?_
      refine lv_iload S.1 S.2.1 dX11_sendAll_33 (lv_at hl 4 rfl) ?_
      refine lv_iconst (v := (0 : Int32)) S.1 S.2.1 dX11_sendAll_35 (by decide) ?_
      obtain ⟨h4, hF⟩ := gd_of hF
      refine rs_sentLast (y := (0 : Int32)) S hW h4 rfl dX11_sendAll_36 (fun H locs hW => ?_)
      refine lv_aload_n S.1 S.2.1 dX11_sendAll_37 rfl (lv_at hl 0 rfl) ?_
      refine rg_shortLast S hW dX11_sendAll_38 ?_
      refine lv_iload S.1 S.2.1 dX11_sendAll_41 (lv_at hl 4 rfl) ?_
      refine lv_iconst (v := (0 : Int32)) S.1 S.2.1 dX11_sendAll_43 (by decide) ?_
      refine rs_shortLast (y := (0 : Int32)) S hW h4 rfl dX11_sendAll_44 (fun H locs hW => ?_)
      refine lv_aload_n S.1 S.2.1 dX11_sendAll_45 rfl (lv_at hl 0 rfl) ?_
      refine rg_refusedLast S hW dX11_sendAll_46 ?_
      refine lv_iload S.1 S.2.1 dX11_sendAll_49 (lv_at hl 4 rfl) ?_
      refine lv_aload_n S.1 S.2.1 dX11_sendAll_51 rfl (lv_at hl 0 rfl) ?_
      refine rg_refusal S hW dX11_sendAll_52 ?_
      refine lv_iload S.1 S.2.1 dX11_sendAll_55 (lv_at hl 4 rfl) ?_
      refine rl_refusal S hW h4 dX11_sendAll_57 ?_
      obtain ⟨u5, hX, hF⟩ := bd_of hF
      refine jn1 (fun H locs ls => lv_has ls 7 [(0, .ref (ad 35)), (1, .int (((8 : Int32) * (gz σ 20)))), (2, .int ((gf σ 21 (((8 : Int32) * (gz σ 20))).toNatClampNeg))), (3, .int xu2.1), (4, .int xu2.2.1)] ∧ RW D ad cA kk (pf (pf xu2.2.2 16 (xu2.2.1).toNatClampNeg ((0 : Int32))) 17 (xu2.2.1).toNatClampNeg ((0 : Int32))) s (RA ad) H locs) 66 [.int u5, .int xu2.2.1, .ref (ad 18)] (fun H locs ls hJ => ?_) (fun Ju5 => ?_)
      · obtain ⟨hl, hW⟩ := hJ
        refine rs_refusedLast (y := (vp_nar .boolean u5)) S hW h4 rfl dX11_sendAll_66 (fun H locs hW => ?_)
        refine lv_aload_n S.1 S.2.1 dX11_sendAll_67 rfl (lv_at hl 0 rfl) ?_
        refine rg_state S hW dX11_sendAll_68 ?_
        refine lv_iload S.1 S.2.1 dX11_sendAll_71 (lv_at hl 4 rfl) ?_
        refine rl_state S hW h4 dX11_sendAll_73 ?_
        obtain ⟨u6, hX, hF⟩ := bd_of hF
        refine jn1 (fun H locs ls => lv_has ls 7 [(0, .ref (ad 35)), (1, .int (((8 : Int32) * (gz σ 20)))), (2, .int ((gf σ 21 (((8 : Int32) * (gz σ 20))).toNatClampNeg))), (3, .int u6.1), (4, .int xu2.2.1)] ∧ RW D ad cA kk u6.2 s (RA ad) H locs) 265 [] (fun H locs ls hJ => ?_) (fun Ju6 => ?_)
        · obtain ⟨hl, hW⟩ := hJ
          refine lv_iinc (v := (xu2.2.1 + (1 : Int32))) (lv' := [(4, .int ((xu2.2.1 + (1 : Int32)))), (0, .ref (ad 35)), (1, .int (((8 : Int32) * (gz σ 20)))), (2, .int ((gf σ 21 (((8 : Int32) * (gz σ 20))).toNatClampNeg))), (3, .int u6.1)]) S.1 S.2.1 dX11_sendAll_265 hl (k := 4) rfl rfl (by decide) rfl (fun ls hl => ?_)
          refine lv_goto (tgt := 20) S.1 S.2.1 dX11_sendAll_268 (by decide) ?_
          exact ihu2 (u6.1, (xu2.2.1 + (1 : Int32)), u6.2) hF _ _ _ ⟨lv_sub hl [1, 2, 3, 4, 0] rfl, hW⟩
        · have hF := hX
          refine lv_if_ne (tgt := 265) S.1 S.2.1 dX11_sendAll_74 (by decide) (fun hc => ?_) (fun hc => ?_)
          · have hF := it_neg hc hF
            obtain rfl := Option.some.inj hF
            exact Ju6 _ _ _ ⟨lv_sub hl [0, 1, 2, 3, 4] rfl, hW⟩
          · have hF := it_pos hc hF
            refine lv_aload_n S.1 S.2.1 dX11_sendAll_77 rfl (lv_at hl 0 rfl) ?_
            refine rg_refusal S hW dX11_sendAll_78 ?_
            refine lv_iload S.1 S.2.1 dX11_sendAll_81 (lv_at hl 4 rfl) ?_
            refine rl_refusal S hW h4 dX11_sendAll_83 ?_
            refine lv_if_le (tgt := 109) S.1 S.2.1 dX11_sendAll_84 (by decide) (fun hc => ?_) (fun hc => ?_)
            · have hF := it_pos hc hF
              refine lv_aload_n S.1 S.2.1 dX11_sendAll_109 rfl (lv_at hl 0 rfl) ?_
              refine rg_books S hW dX11_sendAll_110 ?_
              refine lv_iload_n S.1 S.2.1 dX11_sendAll_113 rfl (lv_at hl 1 rfl) ?_
              refine lv_iconst (v := (2 : Int32)) S.1 S.2.1 dX11_sendAll_114 (by decide) ?_
              refine lv_iadd S.1 S.2.1 dX11_sendAll_115 ?_
              obtain ⟨h7, hF⟩ := gd_of hF
              refine rl_books S hW h7 dX11_sendAll_116 ?_
              refine lv_if_ne (tgt := 144) S.1 S.2.1 dX11_sendAll_117 (by decide) (fun hc => ?_) (fun hc => ?_)
              · have hF := it_neg hc hF
                refine lv_aload_n S.1 S.2.1 dX11_sendAll_144 rfl (lv_at hl 0 rfl) ?_
                refine rg_sentLast S hW dX11_sendAll_145 ?_
                refine lv_iload S.1 S.2.1 dX11_sendAll_148 (lv_at hl 4 rfl) ?_
                refine lv_iconst (v := (1 : Int32)) S.1 S.2.1 dX11_sendAll_150 (by decide) ?_
                refine rs_sentLast (y := (1 : Int32)) S hW h4 rfl dX11_sendAll_151 (fun H locs hW => ?_)
                refine lv_aload_n S.1 S.2.1 dX11_sendAll_152 rfl (lv_at hl 0 rfl) ?_
                refine rg_books S hW dX11_sendAll_153 ?_
                refine lv_iload_n S.1 S.2.1 dX11_sendAll_156 rfl (lv_at hl 1 rfl) ?_
                refine lv_iconst (v := (2 : Int32)) S.1 S.2.1 dX11_sendAll_157 (by decide) ?_
                refine lv_iadd S.1 S.2.1 dX11_sendAll_158 ?_
                refine lv_dup2_11 S.1 S.2.1 dX11_sendAll_159 rfl rfl ?_
                refine rl_books S hW h7 dX11_sendAll_160 ?_
                refine lv_iconst (v := (1 : Int32)) S.1 S.2.1 dX11_sendAll_161 (by decide) ?_
                refine lv_isub S.1 S.2.1 dX11_sendAll_162 ?_
                refine rs_books S hW h7 dX11_sendAll_163 (fun H locs hW => ?_)
                refine lv_aload_n S.1 S.2.1 dX11_sendAll_164 rfl (lv_at hl 0 rfl) ?_
                refine rg_books S hW dX11_sendAll_165 ?_
                refine lv_iload_n S.1 S.2.1 dX11_sendAll_168 rfl (lv_at hl 1 rfl) ?_
                refine lv_iconst (v := (3 : Int32)) S.1 S.2.1 dX11_sendAll_169 (by decide) ?_
                refine lv_iadd S.1 S.2.1 dX11_sendAll_170 ?_
                refine lv_dup2_11 S.1 S.2.1 dX11_sendAll_171 rfl rfl ?_
                obtain ⟨h8, hF⟩ := gd_of hF
                refine rl_books S hW h8 dX11_sendAll_172 ?_
                refine lv_iconst (v := (1 : Int32)) S.1 S.2.1 dX11_sendAll_173 (by decide) ?_
                refine lv_iadd S.1 S.2.1 dX11_sendAll_174 ?_
                refine rs_books S hW h8 dX11_sendAll_175 (fun H locs hW => ?_)
                refine lv_iinc (v := (xu2.1 + (1 : Int32))) (lv' := [(3, .int ((xu2.1 + (1 : Int32)))), (0, .ref (ad 35)), (1, .int (((8 : Int32) * (gz σ 20)))), (2, .int ((gf σ 21 (((8 : Int32) * (gz σ 20))).toNatClampNeg))), (4, .int xu2.2.1)]) S.1 S.2.1 dX11_sendAll_176 hl (k := 3) rfl rfl (by decide) rfl (fun ls hl => ?_)
                refine lv_iload_n S.1 S.2.1 dX11_sendAll_179 rfl (lv_at hl 3 rfl) ?_
                obtain ⟨u9, hX, hF⟩ := bd_of hF
                refine jn1 (fun H locs ls => lv_has ls 7 [(0, .ref (ad 35)), (1, .int (((8 : Int32) * (gz σ 20)))), (2, .int ((gf σ 21 (((8 : Int32) * (gz σ 20))).toNatClampNeg))), (3, .int ((xu2.1 + (1 : Int32)))), (4, .int xu2.2.1)] ∧ RW D ad cA kk u9 s (RA ad) H locs) 193 [] (fun H locs ls hJ => ?_) (fun Ju9 => ?_)
                · obtain ⟨hl, hW⟩ := hJ
                  refine lv_aload_n S.1 S.2.1 dX11_sendAll_193 rfl (lv_at hl 0 rfl) ?_
                  refine rg_bought S hW dX11_sendAll_194 ?_
                  refine lv_iload S.1 S.2.1 dX11_sendAll_197 (lv_at hl 4 rfl) ?_
                  refine lv_dup2_11 S.1 S.2.1 dX11_sendAll_199 rfl rfl ?_
                  refine rl_bought S hW h4 dX11_sendAll_200 ?_
                  refine lv_iconst (v := (1 : Int32)) S.1 S.2.1 dX11_sendAll_201 (by decide) ?_
                  refine lv_iadd S.1 S.2.1 dX11_sendAll_202 ?_
                  refine rs_bought S hW h4 dX11_sendAll_203 (fun H locs hW => ?_)
                  refine lv_aload_n S.1 S.2.1 dX11_sendAll_204 rfl (lv_at hl 0 rfl) ?_
                  refine lv_iconst (v := (2 : Int32)) S.1 S.2.1 dX11_sendAll_205 (by decide) ?_
                  refine lv_aload_n S.1 S.2.1 dX11_sendAll_206 rfl (lv_at hl 0 rfl) ?_
                  refine rg_month S hW dX11_sendAll_207 ?_
                  obtain ⟨u11, hu11, hF⟩ := bd_of hF
                  refine rc_i (k := 2) (As := [.int ((2 : Int32)), .int ((gz (pf u9 13 (xu2.2.1).toNatClampNeg (((gf u9 13 (xu2.2.1).toNatClampNeg) + (1 : Int32)))) 20))]) (rest := []) (cR_ruleOf l D ad cA kk hd hu11) hd (fun _ h => h) S hW (gd_V m_483 m_484 m_485 m_5 m_486) (by decide +kernel) ⟨Nat.le_of_ble_eq_true rfl, Nat.le_of_ble_eq_true rfl⟩ rfl hl.1 rfl (Nat.le_of_ble_eq_true rfl) ⟨Nat.le_of_ble_eq_true rfl, Nat.le_of_ble_eq_true rfl⟩ dX11_sendAll_210 (fun H locs hW => ?_)
                  refine lv_istore (lv' := [(5, .int u11), (0, .ref (ad 35)), (1, .int (((8 : Int32) * (gz σ 20)))), (2, .int ((gf σ 21 (((8 : Int32) * (gz σ 20))).toNatClampNeg))), (3, .int ((xu2.1 + (1 : Int32)))), (4, .int xu2.2.1)]) S.1 S.2.1 dX11_sendAll_213 hl (by decide) rfl (fun ls hl => ?_)
                  refine lv_aload_n S.1 S.2.1 dX11_sendAll_215 rfl (lv_at hl 1 rfl) ?_
                  refine lv_bipush (v := (7 : Int32)) S.1 S.2.1 dX11_sendAll_216 (by decide) ?_
                  refine lv_aload_n S.1 S.2.1 dX11_sendAll_218 rfl (lv_at hl 1 rfl) ?_
                  refine rg_month S hW dX11_sendAll_219 ?_
                  obtain ⟨u12, hu12, hF⟩ := bd_of hF
                  refine rc_i (k := 2) (As := [.int ((7 : Int32)), .int ((gz (pf u9 13 (xu2.2.1).toNatClampNeg (((gf u9 13 (xu2.2.1).toNatClampNeg) + (1 : Int32)))) 20))]) (rest := []) (cR_ruleOf l D ad cA kk hd hu12) hd (fun _ h => h) S hW (gd_V m_483 m_484 m_485 m_5 m_486) (by decide +kernel) ⟨Nat.le_of_ble_eq_true rfl, Nat.le_of_ble_eq_true rfl⟩ rfl hl.1 rfl (Nat.le_of_ble_eq_true rfl) ⟨Nat.le_of_ble_eq_true rfl, Nat.le_of_ble_eq_true rfl⟩ dX11_sendAll_222 (fun H locs hW => ?_)
                  refine lv_iload_n S.1 S.2.1 dX11_sendAll_225 rfl (lv_at hl 3 rfl) ?_
                  refine lv_imul S.1 S.2.1 dX11_sendAll_226 ?_
                  refine lv_bipush (v := (100 : Int32)) S.1 S.2.1 dX11_sendAll_227 (by decide) ?_
                  refine lv_idiv S.1 S.2.1 dX11_sendAll_229 (by decide) ?_
                  refine lv_istore (lv' := [(6, .int (((u12 * (gf σ 21 (((8 : Int32) * (gz σ 20))).toNatClampNeg)) / (100 : Int32)))), (5, .int u11), (0, .ref (ad 35)), (1, .int (((8 : Int32) * (gz σ 20)))), (2, .int ((gf σ 21 (((8 : Int32) * (gz σ 20))).toNatClampNeg))), (3, .int ((xu2.1 + (1 : Int32)))), (4, .int xu2.2.1)]) S.1 S.2.1 dX11_sendAll_230 hl (by decide) rfl (fun ls hl => ?_)
                  refine lv_iload S.1 S.2.1 dX11_sendAll_232 (lv_at hl 1 rfl) ?_
                  refine lv_if_le (tgt := 265) S.1 S.2.1 dX11_sendAll_234 (by decide) (fun hc => ?_) (fun hc => ?_)
                  · have hF := it_pos hc hF
                    obtain rfl := Option.some.inj hF
                    exact Ju6 _ _ _ ⟨lv_sub hl [2, 3, 4, 5, 6] rfl, hW⟩
                  · have hF := it_neg hc hF
                    refine lv_aload_n S.1 S.2.1 dX11_sendAll_237 rfl (lv_at hl 2 rfl) ?_
                    refine rg_bought S hW dX11_sendAll_238 ?_
                    refine lv_iload S.1 S.2.1 dX11_sendAll_241 (lv_at hl 6 rfl) ?_
                    refine rl_bought S hW h4 dX11_sendAll_243 ?_
                    refine lv_iload S.1 S.2.1 dX11_sendAll_244 (lv_at hl 1 rfl) ?_
                    obtain ⟨h13, hF⟩ := gd_of hF
                    refine lv_irem S.1 S.2.1 dX11_sendAll_246 h13 ?_
                    refine lv_if_ne (tgt := 265) S.1 S.2.1 dX11_sendAll_247 (by decide) (fun hc => ?_) (fun hc => ?_)
                    · have hF := it_neg hc hF
                      obtain rfl := Option.some.inj hF
                      exact Ju6 _ _ _ ⟨lv_sub hl [2, 3, 4, 5, 6] rfl, hW⟩
                    · have hF := it_pos hc hF
                      refine lv_iload S.1 S.2.1 dX11_sendAll_250 (lv_at hl 0 rfl) ?_
                      refine lv_if_le (tgt := 265) S.1 S.2.1 dX11_sendAll_252 (by decide) (fun hc => ?_) (fun hc => ?_)
                      · have hF := it_pos hc hF
                        obtain rfl := Option.some.inj hF
                        exact Ju6 _ _ _ ⟨lv_sub hl [2, 3, 4, 5, 6] rfl, hW⟩
                      · have hF := it_neg hc hF
                        refine lv_aload_n S.1 S.2.1 dX11_sendAll_255 rfl (lv_at hl 2 rfl) ?_
                        refine lv_iload S.1 S.2.1 dX11_sendAll_256 (lv_at hl 6 rfl) ?_
                        refine lv_iconst (v := (5 : Int32)) S.1 S.2.1 dX11_sendAll_258 (by decide) ?_
                        refine lv_iload S.1 S.2.1 dX11_sendAll_259 (lv_at hl 0 rfl) ?_
                        refine lv_i2l (v := (((u12 * (gf σ 21 (((8 : Int32) * (gz σ 20))).toNatClampNeg)) / (100 : Int32))).toInt64) S.1 S.2.1 dX11_sendAll_261 rfl ?_
                        obtain ⟨u14, hu14, hF⟩ := bd_of hF
                        refine rc_v (k := 3) (As := [.int xu2.2.1, .int ((5 : Int32)), .long ((((u12 * (gf σ 21 (((8 : Int32) * (gz σ 20))).toNatClampNeg)) / (100 : Int32))).toInt64)]) (rest := []) (cR_enter l D ad cA kk hd hu14) hd (fun _ h => h) S hW (gd_V m_566 m_567 m_568 m_5 m_569) (by decide +kernel) ⟨Nat.le_of_ble_eq_true rfl, Nat.le_of_ble_eq_true rfl⟩ rfl hl.1 rfl (Nat.le_of_ble_eq_true rfl) ⟨Nat.le_of_ble_eq_true rfl, Nat.le_of_ble_eq_true rfl⟩ dX11_sendAll_262 (fun H locs hW => ?_)
                        obtain rfl := Option.some.inj hF
                        exact Ju6 _ _ _ ⟨lv_sub hl [2, 3, 4, 5, 6] rfl, hW⟩
                · have hF := hX
                  refine lv_if_le (tgt := 193) S.1 S.2.1 dX11_sendAll_180 (by decide) (fun hc => ?_) (fun hc => ?_)
                  · have hF := it_pos hc hF
                    obtain rfl := Option.some.inj hF
                    exact Ju9 _ _ _ ⟨lv_sub hl [1, 2, 3, 0, 4] rfl, hW⟩
                  · have hF := it_neg hc hF
                    refine lv_aload_n S.1 S.2.1 dX11_sendAll_183 rfl (lv_at hl 1 rfl) ?_
                    refine lv_iload S.1 S.2.1 dX11_sendAll_184 (lv_at hl 4 rfl) ?_
                    refine lv_iconst (v := (2 : Int32)) S.1 S.2.1 dX11_sendAll_186 (by decide) ?_
                    refine lv_iload_n S.1 S.2.1 dX11_sendAll_187 rfl (lv_at hl 3 rfl) ?_
                    refine lv_ineg S.1 S.2.1 dX11_sendAll_188 ?_
                    refine lv_i2l (v := ((-(gf σ 21 (((8 : Int32) * (gz σ 20))).toNatClampNeg))).toInt64) S.1 S.2.1 dX11_sendAll_189 rfl ?_
                    obtain ⟨u10, hu10, hF⟩ := bd_of hF
                    refine rc_v (k := 3) (As := [.int xu2.2.1, .int ((2 : Int32)), .long (((-(gf σ 21 (((8 : Int32) * (gz σ 20))).toNatClampNeg))).toInt64)]) (rest := []) (cR_enter l D ad cA kk hd hu10) hd (fun _ h => h) S hW (gd_V m_566 m_567 m_568 m_5 m_569) (by decide +kernel) ⟨Nat.le_of_ble_eq_true rfl, Nat.le_of_ble_eq_true rfl⟩ rfl hl.1 rfl (Nat.le_of_ble_eq_true rfl) ⟨Nat.le_of_ble_eq_true rfl, Nat.le_of_ble_eq_true rfl⟩ dX11_sendAll_190 (fun H locs hW => ?_)
                    obtain rfl := Option.some.inj hF
                    exact Ju9 _ _ _ ⟨lv_sub hl [1, 2, 3, 0, 4] rfl, hW⟩
              · have hF := it_pos hc hF
                refine lv_aload_n S.1 S.2.1 dX11_sendAll_120 rfl (lv_at hl 0 rfl) ?_
                refine rg_shortLast S hW dX11_sendAll_121 ?_
                refine lv_iload S.1 S.2.1 dX11_sendAll_124 (lv_at hl 4 rfl) ?_
                refine lv_iconst (v := (1 : Int32)) S.1 S.2.1 dX11_sendAll_126 (by decide) ?_
                refine rs_shortLast (y := (1 : Int32)) S hW h4 rfl dX11_sendAll_127 (fun H locs hW => ?_)
                refine lv_aload_n S.1 S.2.1 dX11_sendAll_128 rfl (lv_at hl 0 rfl) ?_
                refine rg_books S hW dX11_sendAll_129 ?_
                refine lv_iload_n S.1 S.2.1 dX11_sendAll_132 rfl (lv_at hl 1 rfl) ?_
                refine lv_bipush (v := (7 : Int32)) S.1 S.2.1 dX11_sendAll_133 (by decide) ?_
                refine lv_iadd S.1 S.2.1 dX11_sendAll_135 ?_
                refine lv_dup2_11 S.1 S.2.1 dX11_sendAll_136 rfl rfl ?_
                obtain ⟨h15, hF⟩ := gd_of hF
                refine rl_books S hW h15 dX11_sendAll_137 ?_
                refine lv_iconst (v := (1 : Int32)) S.1 S.2.1 dX11_sendAll_138 (by decide) ?_
                refine lv_iadd S.1 S.2.1 dX11_sendAll_139 ?_
                refine rs_books S hW h15 dX11_sendAll_140 (fun H locs hW => ?_)
                refine lv_goto (tgt := 265) S.1 S.2.1 dX11_sendAll_141 (by decide) ?_
                obtain rfl := Option.some.inj hF
                exact Ju6 _ _ _ ⟨lv_sub hl [0, 1, 2, 3, 4] rfl, hW⟩
            · have hF := it_neg hc hF
              refine lv_aload_n S.1 S.2.1 dX11_sendAll_87 rfl (lv_at hl 0 rfl) ?_
              refine rg_refusal S hW dX11_sendAll_88 ?_
              refine lv_iload S.1 S.2.1 dX11_sendAll_91 (lv_at hl 4 rfl) ?_
              refine rl_refusal S hW h4 dX11_sendAll_93 ?_
              refine lv_aload_n S.1 S.2.1 dX11_sendAll_94 rfl (lv_at hl 0 rfl) ?_
              refine lv_iconst (v := (0 : Int32)) S.1 S.2.1 dX11_sendAll_95 (by decide) ?_
              refine lv_aload_n S.1 S.2.1 dX11_sendAll_96 rfl (lv_at hl 0 rfl) ?_
              refine rg_month S hW dX11_sendAll_97 ?_
              obtain ⟨u16, hu16, hF⟩ := bd_of hF
              refine rc_i (k := 2) (As := [.int ((0 : Int32)), .int ((gz (pf (pf (pf xu2.2.2 16 (xu2.2.1).toNatClampNeg ((0 : Int32))) 17 (xu2.2.1).toNatClampNeg ((0 : Int32))) 18 (xu2.2.1).toNatClampNeg ((vp_nar .boolean u5))) 20))]) (rest := [.int ((gf (pf (pf (pf xu2.2.2 16 (xu2.2.1).toNatClampNeg ((0 : Int32))) 17 (xu2.2.1).toNatClampNeg ((0 : Int32))) 18 (xu2.2.1).toNatClampNeg ((vp_nar .boolean u5))) 15 (xu2.2.1).toNatClampNeg))]) (cR_ruleOf l D ad cA kk hd hu16) hd (fun _ h => h) S hW (gd_V m_483 m_484 m_485 m_5 m_486) (by decide +kernel) ⟨Nat.le_of_ble_eq_true rfl, Nat.le_of_ble_eq_true rfl⟩ rfl hl.1 rfl (Nat.le_of_ble_eq_true rfl) ⟨Nat.le_of_ble_eq_true rfl, Nat.le_of_ble_eq_true rfl⟩ dX11_sendAll_100 (fun H locs hW => ?_)
              refine lv_icmp_gt (tgt := 109) S.1 S.2.1 dX11_sendAll_103 (by decide) (fun hc => ?_) (fun hc => ?_)
              · have hF := it_pos hc hF
                refine lv_aload_n S.1 S.2.1 dX11_sendAll_109 rfl (lv_at hl 0 rfl) ?_
                refine rg_books S hW dX11_sendAll_110 ?_
                refine lv_iload_n S.1 S.2.1 dX11_sendAll_113 rfl (lv_at hl 1 rfl) ?_
                refine lv_iconst (v := (2 : Int32)) S.1 S.2.1 dX11_sendAll_114 (by decide) ?_
                refine lv_iadd S.1 S.2.1 dX11_sendAll_115 ?_
                obtain ⟨h17, hF⟩ := gd_of hF
                refine rl_books S hW h17 dX11_sendAll_116 ?_
                refine lv_if_ne (tgt := 144) S.1 S.2.1 dX11_sendAll_117 (by decide) (fun hc => ?_) (fun hc => ?_)
                · have hF := it_neg hc hF
                  refine lv_aload_n S.1 S.2.1 dX11_sendAll_144 rfl (lv_at hl 0 rfl) ?_
                  refine rg_sentLast S hW dX11_sendAll_145 ?_
                  refine lv_iload S.1 S.2.1 dX11_sendAll_148 (lv_at hl 4 rfl) ?_
                  refine lv_iconst (v := (1 : Int32)) S.1 S.2.1 dX11_sendAll_150 (by decide) ?_
                  refine rs_sentLast (y := (1 : Int32)) S hW h4 rfl dX11_sendAll_151 (fun H locs hW => ?_)
                  refine lv_aload_n S.1 S.2.1 dX11_sendAll_152 rfl (lv_at hl 0 rfl) ?_
                  refine rg_books S hW dX11_sendAll_153 ?_
                  refine lv_iload_n S.1 S.2.1 dX11_sendAll_156 rfl (lv_at hl 1 rfl) ?_
                  refine lv_iconst (v := (2 : Int32)) S.1 S.2.1 dX11_sendAll_157 (by decide) ?_
                  refine lv_iadd S.1 S.2.1 dX11_sendAll_158 ?_
                  refine lv_dup2_11 S.1 S.2.1 dX11_sendAll_159 rfl rfl ?_
                  refine rl_books S hW h17 dX11_sendAll_160 ?_
                  refine lv_iconst (v := (1 : Int32)) S.1 S.2.1 dX11_sendAll_161 (by decide) ?_
                  refine lv_isub S.1 S.2.1 dX11_sendAll_162 ?_
                  refine rs_books S hW h17 dX11_sendAll_163 (fun H locs hW => ?_)
                  refine lv_aload_n S.1 S.2.1 dX11_sendAll_164 rfl (lv_at hl 0 rfl) ?_
                  refine rg_books S hW dX11_sendAll_165 ?_
                  refine lv_iload_n S.1 S.2.1 dX11_sendAll_168 rfl (lv_at hl 1 rfl) ?_
                  refine lv_iconst (v := (3 : Int32)) S.1 S.2.1 dX11_sendAll_169 (by decide) ?_
                  refine lv_iadd S.1 S.2.1 dX11_sendAll_170 ?_
                  refine lv_dup2_11 S.1 S.2.1 dX11_sendAll_171 rfl rfl ?_
                  obtain ⟨h18, hF⟩ := gd_of hF
                  refine rl_books S hW h18 dX11_sendAll_172 ?_
                  refine lv_iconst (v := (1 : Int32)) S.1 S.2.1 dX11_sendAll_173 (by decide) ?_
                  refine lv_iadd S.1 S.2.1 dX11_sendAll_174 ?_
                  refine rs_books S hW h18 dX11_sendAll_175 (fun H locs hW => ?_)
                  refine lv_iinc (v := (xu2.1 + (1 : Int32))) (lv' := [(3, .int ((xu2.1 + (1 : Int32)))), (0, .ref (ad 35)), (1, .int (((8 : Int32) * (gz σ 20)))), (2, .int ((gf σ 21 (((8 : Int32) * (gz σ 20))).toNatClampNeg))), (4, .int xu2.2.1)]) S.1 S.2.1 dX11_sendAll_176 hl (k := 3) rfl rfl (by decide) rfl (fun ls hl => ?_)
                  refine lv_iload_n S.1 S.2.1 dX11_sendAll_179 rfl (lv_at hl 3 rfl) ?_
                  obtain ⟨u19, hX, hF⟩ := bd_of hF
                  refine jn1 (fun H locs ls => lv_has ls 7 [(0, .ref (ad 35)), (1, .int (((8 : Int32) * (gz σ 20)))), (2, .int ((gf σ 21 (((8 : Int32) * (gz σ 20))).toNatClampNeg))), (3, .int ((xu2.1 + (1 : Int32)))), (4, .int xu2.2.1)] ∧ RW D ad cA kk u19 s (RA ad) H locs) 193 [] (fun H locs ls hJ => ?_) (fun Ju19 => ?_)
                  · obtain ⟨hl, hW⟩ := hJ
                    refine lv_aload_n S.1 S.2.1 dX11_sendAll_193 rfl (lv_at hl 0 rfl) ?_
                    refine rg_bought S hW dX11_sendAll_194 ?_
                    refine lv_iload S.1 S.2.1 dX11_sendAll_197 (lv_at hl 4 rfl) ?_
                    refine lv_dup2_11 S.1 S.2.1 dX11_sendAll_199 rfl rfl ?_
                    refine rl_bought S hW h4 dX11_sendAll_200 ?_
                    refine lv_iconst (v := (1 : Int32)) S.1 S.2.1 dX11_sendAll_201 (by decide) ?_
                    refine lv_iadd S.1 S.2.1 dX11_sendAll_202 ?_
                    refine rs_bought S hW h4 dX11_sendAll_203 (fun H locs hW => ?_)
                    refine lv_aload_n S.1 S.2.1 dX11_sendAll_204 rfl (lv_at hl 0 rfl) ?_
                    refine lv_iconst (v := (2 : Int32)) S.1 S.2.1 dX11_sendAll_205 (by decide) ?_
                    refine lv_aload_n S.1 S.2.1 dX11_sendAll_206 rfl (lv_at hl 0 rfl) ?_
                    refine rg_month S hW dX11_sendAll_207 ?_
                    obtain ⟨u21, hu21, hF⟩ := bd_of hF
                    refine rc_i (k := 2) (As := [.int ((2 : Int32)), .int ((gz (pf u19 13 (xu2.2.1).toNatClampNeg (((gf u19 13 (xu2.2.1).toNatClampNeg) + (1 : Int32)))) 20))]) (rest := []) (cR_ruleOf l D ad cA kk hd hu21) hd (fun _ h => h) S hW (gd_V m_483 m_484 m_485 m_5 m_486) (by decide +kernel) ⟨Nat.le_of_ble_eq_true rfl, Nat.le_of_ble_eq_true rfl⟩ rfl hl.1 rfl (Nat.le_of_ble_eq_true rfl) ⟨Nat.le_of_ble_eq_true rfl, Nat.le_of_ble_eq_true rfl⟩ dX11_sendAll_210 (fun H locs hW => ?_)
                    refine lv_istore (lv' := [(5, .int u21), (0, .ref (ad 35)), (1, .int (((8 : Int32) * (gz σ 20)))), (2, .int ((gf σ 21 (((8 : Int32) * (gz σ 20))).toNatClampNeg))), (3, .int ((xu2.1 + (1 : Int32)))), (4, .int xu2.2.1)]) S.1 S.2.1 dX11_sendAll_213 hl (by decide) rfl (fun ls hl => ?_)
                    refine lv_aload_n S.1 S.2.1 dX11_sendAll_215 rfl (lv_at hl 1 rfl) ?_
                    refine lv_bipush (v := (7 : Int32)) S.1 S.2.1 dX11_sendAll_216 (by decide) ?_
                    refine lv_aload_n S.1 S.2.1 dX11_sendAll_218 rfl (lv_at hl 1 rfl) ?_
                    refine rg_month S hW dX11_sendAll_219 ?_
                    obtain ⟨u22, hu22, hF⟩ := bd_of hF
                    refine rc_i (k := 2) (As := [.int ((7 : Int32)), .int ((gz (pf u19 13 (xu2.2.1).toNatClampNeg (((gf u19 13 (xu2.2.1).toNatClampNeg) + (1 : Int32)))) 20))]) (rest := []) (cR_ruleOf l D ad cA kk hd hu22) hd (fun _ h => h) S hW (gd_V m_483 m_484 m_485 m_5 m_486) (by decide +kernel) ⟨Nat.le_of_ble_eq_true rfl, Nat.le_of_ble_eq_true rfl⟩ rfl hl.1 rfl (Nat.le_of_ble_eq_true rfl) ⟨Nat.le_of_ble_eq_true rfl, Nat.le_of_ble_eq_true rfl⟩ dX11_sendAll_222 (fun H locs hW => ?_)
                    refine lv_iload_n S.1 S.2.1 dX11_sendAll_225 rfl (lv_at hl 3 rfl) ?_
                    refine lv_imul S.1 S.2.1 dX11_sendAll_226 ?_
                    refine lv_bipush (v := (100 : Int32)) S.1 S.2.1 dX11_sendAll_227 (by decide) ?_
                    refine lv_idiv S.1 S.2.1 dX11_sendAll_229 (by decide) ?_
                    refine lv_istore (lv' := [(6, .int (((u22 * (gf σ 21 (((8 : Int32) * (gz σ 20))).toNatClampNeg)) / (100 : Int32)))), (5, .int u21), (0, .ref (ad 35)), (1, .int (((8 : Int32) * (gz σ 20)))), (2, .int ((gf σ 21 (((8 : Int32) * (gz σ 20))).toNatClampNeg))), (3, .int ((xu2.1 + (1 : Int32)))), (4, .int xu2.2.1)]) S.1 S.2.1 dX11_sendAll_230 hl (by decide) rfl (fun ls hl => ?_)
                    refine lv_iload S.1 S.2.1 dX11_sendAll_232 (lv_at hl 1 rfl) ?_
                    refine lv_if_le (tgt := 265) S.1 S.2.1 dX11_sendAll_234 (by decide) (fun hc => ?_) (fun hc => ?_)
                    · have hF := it_pos hc hF
                      obtain rfl := Option.some.inj hF
                      exact Ju6 _ _ _ ⟨lv_sub hl [2, 3, 4, 5, 6] rfl, hW⟩
                    · have hF := it_neg hc hF
                      refine lv_aload_n S.1 S.2.1 dX11_sendAll_237 rfl (lv_at hl 2 rfl) ?_
                      refine rg_bought S hW dX11_sendAll_238 ?_
                      refine lv_iload S.1 S.2.1 dX11_sendAll_241 (lv_at hl 6 rfl) ?_
                      refine rl_bought S hW h4 dX11_sendAll_243 ?_
                      refine lv_iload S.1 S.2.1 dX11_sendAll_244 (lv_at hl 1 rfl) ?_
                      obtain ⟨h23, hF⟩ := gd_of hF
                      refine lv_irem S.1 S.2.1 dX11_sendAll_246 h23 ?_
                      refine lv_if_ne (tgt := 265) S.1 S.2.1 dX11_sendAll_247 (by decide) (fun hc => ?_) (fun hc => ?_)
                      · have hF := it_neg hc hF
                        obtain rfl := Option.some.inj hF
                        exact Ju6 _ _ _ ⟨lv_sub hl [2, 3, 4, 5, 6] rfl, hW⟩
                      · have hF := it_pos hc hF
                        refine lv_iload S.1 S.2.1 dX11_sendAll_250 (lv_at hl 0 rfl) ?_
                        refine lv_if_le (tgt := 265) S.1 S.2.1 dX11_sendAll_252 (by decide) (fun hc => ?_) (fun hc => ?_)
                        · have hF := it_pos hc hF
                          obtain rfl := Option.some.inj hF
                          exact Ju6 _ _ _ ⟨lv_sub hl [2, 3, 4, 5, 6] rfl, hW⟩
                        · have hF := it_neg hc hF
                          refine lv_aload_n S.1 S.2.1 dX11_sendAll_255 rfl (lv_at hl 2 rfl) ?_
                          refine lv_iload S.1 S.2.1 dX11_sendAll_256 (lv_at hl 6 rfl) ?_
                          refine lv_iconst (v := (5 : Int32)) S.1 S.2.1 dX11_sendAll_258 (by decide) ?_
                          refine lv_iload S.1 S.2.1 dX11_sendAll_259 (lv_at hl 0 rfl) ?_
                          refine lv_i2l (v := (((u22 * (gf σ 21 (((8 : Int32) * (gz σ 20))).toNatClampNeg)) / (100 : Int32))).toInt64) S.1 S.2.1 dX11_sendAll_261 rfl ?_
                          obtain ⟨u24, hu24, hF⟩ := bd_of hF
                          refine rc_v (k := 3) (As := [.int xu2.2.1, .int ((5 : Int32)), .long ((((u22 * (gf σ 21 (((8 : Int32) * (gz σ 20))).toNatClampNeg)) / (100 : Int32))).toInt64)]) (rest := []) (cR_enter l D ad cA kk hd hu24) hd (fun _ h => h) S hW (gd_V m_566 m_567 m_568 m_5 m_569) (by decide +kernel) ⟨Nat.le_of_ble_eq_true rfl, Nat.le_of_ble_eq_true rfl⟩ rfl hl.1 rfl (Nat.le_of_ble_eq_true rfl) ⟨Nat.le_of_ble_eq_true rfl, Nat.le_of_ble_eq_true rfl⟩ dX11_sendAll_262 (fun H locs hW => ?_)
                          obtain rfl := Option.some.inj hF
                          exact Ju6 _ _ _ ⟨lv_sub hl [2, 3, 4, 5, 6] rfl, hW⟩
                  · have hF := hX
                    refine lv_if_le (tgt := 193) S.1 S.2.1 dX11_sendAll_180 (by decide) (fun hc => ?_) (fun hc => ?_)
                    · have hF := it_pos hc hF
                      obtain rfl := Option.some.inj hF
                      exact Ju19 _ _ _ ⟨lv_sub hl [1, 2, 3, 0, 4] rfl, hW⟩
                    · have hF := it_neg hc hF
                      refine lv_aload_n S.1 S.2.1 dX11_sendAll_183 rfl (lv_at hl 1 rfl) ?_
                      refine lv_iload S.1 S.2.1 dX11_sendAll_184 (lv_at hl 4 rfl) ?_
                      refine lv_iconst (v := (2 : Int32)) S.1 S.2.1 dX11_sendAll_186 (by decide) ?_
                      refine lv_iload_n S.1 S.2.1 dX11_sendAll_187 rfl (lv_at hl 3 rfl) ?_
                      refine lv_ineg S.1 S.2.1 dX11_sendAll_188 ?_
                      refine lv_i2l (v := ((-(gf σ 21 (((8 : Int32) * (gz σ 20))).toNatClampNeg))).toInt64) S.1 S.2.1 dX11_sendAll_189 rfl ?_
                      obtain ⟨u20, hu20, hF⟩ := bd_of hF
                      refine rc_v (k := 3) (As := [.int xu2.2.1, .int ((2 : Int32)), .long (((-(gf σ 21 (((8 : Int32) * (gz σ 20))).toNatClampNeg))).toInt64)]) (rest := []) (cR_enter l D ad cA kk hd hu20) hd (fun _ h => h) S hW (gd_V m_566 m_567 m_568 m_5 m_569) (by decide +kernel) ⟨Nat.le_of_ble_eq_true rfl, Nat.le_of_ble_eq_true rfl⟩ rfl hl.1 rfl (Nat.le_of_ble_eq_true rfl) ⟨Nat.le_of_ble_eq_true rfl, Nat.le_of_ble_eq_true rfl⟩ dX11_sendAll_190 (fun H locs hW => ?_)
                      obtain rfl := Option.some.inj hF
                      exact Ju19 _ _ _ ⟨lv_sub hl [1, 2, 3, 0, 4] rfl, hW⟩
                · have hF := it_pos hc hF
                  refine lv_aload_n S.1 S.2.1 dX11_sendAll_120 rfl (lv_at hl 0 rfl) ?_
                  refine rg_shortLast S hW dX11_sendAll_121 ?_
                  refine lv_iload S.1 S.2.1 dX11_sendAll_124 (lv_at hl 4 rfl) ?_
                  refine lv_iconst (v := (1 : Int32)) S.1 S.2.1 dX11_sendAll_126 (by decide) ?_
                  refine rs_shortLast (y := (1 : Int32)) S hW h4 rfl dX11_sendAll_127 (fun H locs hW => ?_)
                  refine lv_aload_n S.1 S.2.1 dX11_sendAll_128 rfl (lv_at hl 0 rfl) ?_
                  refine rg_books S hW dX11_sendAll_129 ?_
                  refine lv_iload_n S.1 S.2.1 dX11_sendAll_132 rfl (lv_at hl 1 rfl) ?_
                  refine lv_bipush (v := (7 : Int32)) S.1 S.2.1 dX11_sendAll_133 (by decide) ?_
                  refine lv_iadd S.1 S.2.1 dX11_sendAll_135 ?_
                  refine lv_dup2_11 S.1 S.2.1 dX11_sendAll_136 rfl rfl ?_
                  obtain ⟨h25, hF⟩ := gd_of hF
                  refine rl_books S hW h25 dX11_sendAll_137 ?_
                  refine lv_iconst (v := (1 : Int32)) S.1 S.2.1 dX11_sendAll_138 (by decide) ?_
                  refine lv_iadd S.1 S.2.1 dX11_sendAll_139 ?_
                  refine rs_books S hW h25 dX11_sendAll_140 (fun H locs hW => ?_)
                  refine lv_goto (tgt := 265) S.1 S.2.1 dX11_sendAll_141 (by decide) ?_
                  obtain rfl := Option.some.inj hF
                  exact Ju6 _ _ _ ⟨lv_sub hl [0, 1, 2, 3, 4] rfl, hW⟩
              · have hF := it_neg hc hF
                refine lv_goto (tgt := 265) S.1 S.2.1 dX11_sendAll_106 (by decide) ?_
                obtain rfl := Option.some.inj hF
                exact Ju6 _ _ _ ⟨lv_sub hl [0, 1, 2, 3, 4] rfl, hW⟩
      · have hF := hX
        refine lv_if_le (tgt := 65) S.1 S.2.1 dX11_sendAll_58 (by decide) (fun hc => ?_) (fun hc => ?_)
        · have hF := it_pos hc hF
          refine lv_iconst (v := (0 : Int32)) S.1 S.2.1 dX11_sendAll_65 (by decide) ?_
          obtain rfl := Option.some.inj hF
          exact Ju5 _ _ _ ⟨lv_sub hl [0, 1, 2, 3, 4] rfl, hW⟩
        · have hF := it_neg hc hF
          refine lv_iconst (v := (1 : Int32)) S.1 S.2.1 dX11_sendAll_61 (by decide) ?_
          refine lv_goto (tgt := 66) S.1 S.2.1 dX11_sendAll_62 (by decide) ?_
          obtain rfl := Option.some.inj hF
          exact Ju5 _ _ _ ⟨lv_sub hl [0, 1, 2, 3, 4] rfl, hW⟩
def fR_clear (σ : SR) (a1 : Int32) (a2 : Int32) (a3 : Int32) : Option (Int32 × SR) :=
  Option.bind (fR_in a1 ((0 : Int32)) ((gz (pz σ 31 ((0 : Int32))) 20))) (fun u1 =>
  if u1 = 0 then
  some ((-1 : Int32), pz σ 31 ((0 : Int32)))
  else
  Option.bind (fR_in a2 ((0 : Int32)) ((1 : Int32))) (fun u2 =>
  if u2 = 0 then
  some ((-1 : Int32), pz σ 31 ((0 : Int32)))
  else
  if (((8 : Int32) * a1) + (2 : Int32)) < 0 ∨ 488 ≤ ((((8 : Int32) * a1) + (2 : Int32))).toNatClampNeg then none else
  Option.bind (fR_in a3 ((0 : Int32)) ((gf (pz σ 31 ((0 : Int32))) 21 ((((8 : Int32) * a1) + (2 : Int32))).toNatClampNeg))) (fun u4 =>
  if u4 = 0 then
  some ((-1 : Int32), pz σ 31 ((0 : Int32)))
  else
  if ((((8 : Int32) * a1) + (5 : Int32)) + a2) < 0 ∨ 488 ≤ (((((8 : Int32) * a1) + (5 : Int32)) + a2)).toNatClampNeg then none else
  some ((gf (pf (pf (pz σ 31 ((0 : Int32))) 21 ((((8 : Int32) * a1) + (2 : Int32))).toNatClampNeg (((gf (pz σ 31 ((0 : Int32))) 21 ((((8 : Int32) * a1) + (2 : Int32))).toNatClampNeg) - a3))) 21 (((((8 : Int32) * a1) + (5 : Int32)) + a2)).toNatClampNeg (((gf (pf (pz σ 31 ((0 : Int32))) 21 ((((8 : Int32) * a1) + (2 : Int32))).toNatClampNeg (((gf (pz σ 31 ((0 : Int32))) 21 ((((8 : Int32) * a1) + (2 : Int32))).toNatClampNeg) - a3))) 21 (((((8 : Int32) * a1) + (5 : Int32)) + a2)).toNatClampNeg) + a3))) 21 ((((8 : Int32) * a1) + (2 : Int32))).toNatClampNeg), pf (pf (pz σ 31 ((0 : Int32))) 21 ((((8 : Int32) * a1) + (2 : Int32))).toNatClampNeg (((gf (pz σ 31 ((0 : Int32))) 21 ((((8 : Int32) * a1) + (2 : Int32))).toNatClampNeg) - a3))) 21 (((((8 : Int32) * a1) + (5 : Int32)) + a2)).toNatClampNeg (((gf (pf (pz σ 31 ((0 : Int32))) 21 ((((8 : Int32) * a1) + (2 : Int32))).toNatClampNeg (((gf (pz σ 31 ((0 : Int32))) 21 ((((8 : Int32) * a1) + (2 : Int32))).toNatClampNeg) - a3))) 21 (((((8 : Int32) * a1) + (5 : Int32)) + a2)).toNatClampNeg) + a3))))))
set_option maxRecDepth 100000 in
set_option maxHeartbeats 4000000 in
theorem cR_clear (l : Launch) (D : va_G) (ad : Nat → Nat) (cA : Nat → ClassId) (kk : Nat → Nat) (hd : RD ad) {σ : SR} {a1 : Int32} {a2 : Int32} {a3 : Int32} {o : Int32 × SR} (hF : fR_clear σ a1 a2 a3 = some o) : Mi l yX11_clear cX11_clear 4 .int { frames := 1, cells := 0, slots := 0, locals := 22 } [.ref (ad 35), .int a1, .int a2, .int a3] (RP D ad cA kk σ) o.1 (RP D ad cA kk (o.2)) (RA ad) := by
  refine Mi.of (own := RX11) rfl (by decide +kernel) (Nat.le_of_ble_eq_true rfl) ?_
  intro p e s m args below meth c ls S hr hlk hP hl
  have hW := RW.start hd hP
  have hl : lv_has ls 4 [(0, .ref (ad 35)), (1, .int a1), (2, .int a2), (3, .int a3)] := hl
  rw [fR_clear] at hF
  refine lv_aload_n S.1 S.2.1 dX11_clear_0 rfl (lv_at hl 0 rfl) ?_
  refine lv_iconst (v := (0 : Int32)) S.1 S.2.1 dX11_clear_1 (by decide) ?_
  refine rp_thrown S hW dX11_clear_2 (fun H locs hW => ?_)
  refine lv_iload_n S.1 S.2.1 dX11_clear_5 rfl (lv_at hl 1 rfl) ?_
  refine lv_iconst (v := (0 : Int32)) S.1 S.2.1 dX11_clear_6 (by decide) ?_
  refine lv_aload_n S.1 S.2.1 dX11_clear_7 rfl (lv_at hl 0 rfl) ?_
  refine rg_month S hW dX11_clear_8 ?_
  obtain ⟨u1, hu1, hF⟩ := bd_of hF
  refine sc_i (k := 3) (As := [.int a1, .int ((0 : Int32)), .int ((gz (pz σ 31 ((0 : Int32))) 20))]) (rest := []) (cR_in l hu1) S (gd_S m_391 m_392 m_5 m_393) rfl rfl (by decide +kernel) ⟨Nat.le_of_ble_eq_true rfl, Nat.le_of_ble_eq_true rfl⟩ rfl hl.1 rfl (Nat.le_of_ble_eq_true rfl) ⟨Nat.le_of_ble_eq_true rfl, Nat.le_of_ble_eq_true rfl⟩ dX11_clear_11 ?_
  refine lv_if_eq (tgt := 45) S.1 S.2.1 dX11_clear_14 (by decide) (fun hc => ?_) (fun hc => ?_)
  · have hF := it_pos hc hF
    refine lv_iconst (v := (-1 : Int32)) S.1 S.2.1 dX11_clear_45 (by decide) ?_
    obtain rfl := Option.some.inj hF
    exact rr_i S hr hlk hW rfl rfl dX11_clear_46
  · have hF := it_neg hc hF
    refine lv_iload_n S.1 S.2.1 dX11_clear_17 rfl (lv_at hl 2 rfl) ?_
    refine lv_iconst (v := (0 : Int32)) S.1 S.2.1 dX11_clear_18 (by decide) ?_
    refine lv_iconst (v := (1 : Int32)) S.1 S.2.1 dX11_clear_19 (by decide) ?_
    obtain ⟨u2, hu2, hF⟩ := bd_of hF
    refine sc_i (k := 3) (As := [.int a2, .int ((0 : Int32)), .int ((1 : Int32))]) (rest := []) (cR_in l hu2) S (gd_S m_391 m_392 m_5 m_393) rfl rfl (by decide +kernel) ⟨Nat.le_of_ble_eq_true rfl, Nat.le_of_ble_eq_true rfl⟩ rfl hl.1 rfl (Nat.le_of_ble_eq_true rfl) ⟨Nat.le_of_ble_eq_true rfl, Nat.le_of_ble_eq_true rfl⟩ dX11_clear_20 ?_
    refine lv_if_eq (tgt := 45) S.1 S.2.1 dX11_clear_23 (by decide) (fun hc => ?_) (fun hc => ?_)
    · have hF := it_pos hc hF
      refine lv_iconst (v := (-1 : Int32)) S.1 S.2.1 dX11_clear_45 (by decide) ?_
      obtain rfl := Option.some.inj hF
      exact rr_i S hr hlk hW rfl rfl dX11_clear_46
    · have hF := it_neg hc hF
      refine lv_iload_n S.1 S.2.1 dX11_clear_26 rfl (lv_at hl 3 rfl) ?_
      refine lv_iconst (v := (0 : Int32)) S.1 S.2.1 dX11_clear_27 (by decide) ?_
      refine lv_aload_n S.1 S.2.1 dX11_clear_28 rfl (lv_at hl 0 rfl) ?_
      refine rg_books S hW dX11_clear_29 ?_
      refine lv_bipush (v := (8 : Int32)) S.1 S.2.1 dX11_clear_32 (by decide) ?_
      refine lv_iload_n S.1 S.2.1 dX11_clear_34 rfl (lv_at hl 1 rfl) ?_
      refine lv_imul S.1 S.2.1 dX11_clear_35 ?_
      refine lv_iconst (v := (2 : Int32)) S.1 S.2.1 dX11_clear_36 (by decide) ?_
      refine lv_iadd S.1 S.2.1 dX11_clear_37 ?_
      obtain ⟨h3, hF⟩ := gd_of hF
      refine rl_books S hW h3 dX11_clear_38 ?_
      obtain ⟨u4, hu4, hF⟩ := bd_of hF
      refine sc_i (k := 3) (As := [.int a3, .int ((0 : Int32)), .int ((gf (pz σ 31 ((0 : Int32))) 21 ((((8 : Int32) * a1) + (2 : Int32))).toNatClampNeg))]) (rest := []) (cR_in l hu4) S (gd_S m_391 m_392 m_5 m_393) rfl rfl (by decide +kernel) ⟨Nat.le_of_ble_eq_true rfl, Nat.le_of_ble_eq_true rfl⟩ rfl hl.1 rfl (Nat.le_of_ble_eq_true rfl) ⟨Nat.le_of_ble_eq_true rfl, Nat.le_of_ble_eq_true rfl⟩ dX11_clear_39 ?_
      refine lv_if_ne (tgt := 47) S.1 S.2.1 dX11_clear_42 (by decide) (fun hc => ?_) (fun hc => ?_)
      · have hF := it_neg hc hF
        refine lv_aload_n S.1 S.2.1 dX11_clear_47 rfl (lv_at hl 0 rfl) ?_
        refine rg_books S hW dX11_clear_48 ?_
        refine lv_bipush (v := (8 : Int32)) S.1 S.2.1 dX11_clear_51 (by decide) ?_
        refine lv_iload_n S.1 S.2.1 dX11_clear_53 rfl (lv_at hl 1 rfl) ?_
        refine lv_imul S.1 S.2.1 dX11_clear_54 ?_
        refine lv_iconst (v := (2 : Int32)) S.1 S.2.1 dX11_clear_55 (by decide) ?_
        refine lv_iadd S.1 S.2.1 dX11_clear_56 ?_
        refine lv_dup2_11 S.1 S.2.1 dX11_clear_57 rfl rfl ?_
        refine rl_books S hW h3 dX11_clear_58 ?_
        refine lv_iload_n S.1 S.2.1 dX11_clear_59 rfl (lv_at hl 3 rfl) ?_
        refine lv_isub S.1 S.2.1 dX11_clear_60 ?_
        refine rs_books S hW h3 dX11_clear_61 (fun H locs hW => ?_)
        refine lv_aload_n S.1 S.2.1 dX11_clear_62 rfl (lv_at hl 0 rfl) ?_
        refine rg_books S hW dX11_clear_63 ?_
        refine lv_bipush (v := (8 : Int32)) S.1 S.2.1 dX11_clear_66 (by decide) ?_
        refine lv_iload_n S.1 S.2.1 dX11_clear_68 rfl (lv_at hl 1 rfl) ?_
        refine lv_imul S.1 S.2.1 dX11_clear_69 ?_
        refine lv_iconst (v := (5 : Int32)) S.1 S.2.1 dX11_clear_70 (by decide) ?_
        refine lv_iadd S.1 S.2.1 dX11_clear_71 ?_
        refine lv_iload_n S.1 S.2.1 dX11_clear_72 rfl (lv_at hl 2 rfl) ?_
        refine lv_iadd S.1 S.2.1 dX11_clear_73 ?_
        refine lv_dup2_11 S.1 S.2.1 dX11_clear_74 rfl rfl ?_
        obtain ⟨h5, hF⟩ := gd_of hF
        refine rl_books S hW h5 dX11_clear_75 ?_
        refine lv_iload_n S.1 S.2.1 dX11_clear_76 rfl (lv_at hl 3 rfl) ?_
        refine lv_iadd S.1 S.2.1 dX11_clear_77 ?_
        refine rs_books S hW h5 dX11_clear_78 (fun H locs hW => ?_)
        refine lv_aload_n S.1 S.2.1 dX11_clear_79 rfl (lv_at hl 0 rfl) ?_
        refine rg_books S hW dX11_clear_80 ?_
        refine lv_bipush (v := (8 : Int32)) S.1 S.2.1 dX11_clear_83 (by decide) ?_
        refine lv_iload_n S.1 S.2.1 dX11_clear_85 rfl (lv_at hl 1 rfl) ?_
        refine lv_imul S.1 S.2.1 dX11_clear_86 ?_
        refine lv_iconst (v := (2 : Int32)) S.1 S.2.1 dX11_clear_87 (by decide) ?_
        refine lv_iadd S.1 S.2.1 dX11_clear_88 ?_
        refine rl_books S hW h3 dX11_clear_89 ?_
        obtain rfl := Option.some.inj hF
        exact rr_i S hr hlk hW rfl rfl dX11_clear_90
      · have hF := it_pos hc hF
        refine lv_iconst (v := (-1 : Int32)) S.1 S.2.1 dX11_clear_45 (by decide) ?_
        obtain rfl := Option.some.inj hF
        exact rr_i S hr hlk hW rfl rfl dX11_clear_46
def fR_book (σ : SR) (a1 : Int32) (a2 : Int32) : Option (Int32 × SR) :=
  Option.bind (fR_in a1 ((0 : Int32)) ((gz (pz σ 31 ((0 : Int32))) 20))) (fun u1 =>
  if u1 = 0 then
  some ((-1 : Int32), pz σ 31 ((0 : Int32)))
  else
  Option.bind (fR_in a2 ((0 : Int32)) ((7 : Int32))) (fun u2 =>
  if u2 = 0 then
  some ((-1 : Int32), pz σ 31 ((0 : Int32)))
  else
  if (((8 : Int32) * a1) + a2) < 0 ∨ 488 ≤ ((((8 : Int32) * a1) + a2)).toNatClampNeg then none else
  some ((gf (pz σ 31 ((0 : Int32))) 21 ((((8 : Int32) * a1) + a2)).toNatClampNeg), pz σ 31 ((0 : Int32)))))
set_option maxRecDepth 100000 in
set_option maxHeartbeats 4000000 in
theorem cR_book (l : Launch) (D : va_G) (ad : Nat → Nat) (cA : Nat → ClassId) (kk : Nat → Nat) (hd : RD ad) {σ : SR} {a1 : Int32} {a2 : Int32} {o : Int32 × SR} (hF : fR_book σ a1 a2 = some o) : Mi l yX11_book cX11_book 3 .int { frames := 1, cells := 0, slots := 0, locals := 22 } [.ref (ad 35), .int a1, .int a2] (RP D ad cA kk σ) o.1 (RP D ad cA kk (o.2)) (RA ad) := by
  refine Mi.of (own := RX11) rfl (by decide +kernel) (Nat.le_of_ble_eq_true rfl) ?_
  intro p e s m args below meth c ls S hr hlk hP hl
  have hW := RW.start hd hP
  have hl : lv_has ls 3 [(0, .ref (ad 35)), (1, .int a1), (2, .int a2)] := hl
  rw [fR_book] at hF
  refine lv_aload_n S.1 S.2.1 dX11_book_0 rfl (lv_at hl 0 rfl) ?_
  refine lv_iconst (v := (0 : Int32)) S.1 S.2.1 dX11_book_1 (by decide) ?_
  refine rp_thrown S hW dX11_book_2 (fun H locs hW => ?_)
  refine lv_iload_n S.1 S.2.1 dX11_book_5 rfl (lv_at hl 1 rfl) ?_
  refine lv_iconst (v := (0 : Int32)) S.1 S.2.1 dX11_book_6 (by decide) ?_
  refine lv_aload_n S.1 S.2.1 dX11_book_7 rfl (lv_at hl 0 rfl) ?_
  refine rg_month S hW dX11_book_8 ?_
  obtain ⟨u1, hu1, hF⟩ := bd_of hF
  refine sc_i (k := 3) (As := [.int a1, .int ((0 : Int32)), .int ((gz (pz σ 31 ((0 : Int32))) 20))]) (rest := []) (cR_in l hu1) S (gd_S m_391 m_392 m_5 m_393) rfl rfl (by decide +kernel) ⟨Nat.le_of_ble_eq_true rfl, Nat.le_of_ble_eq_true rfl⟩ rfl hl.1 rfl (Nat.le_of_ble_eq_true rfl) ⟨Nat.le_of_ble_eq_true rfl, Nat.le_of_ble_eq_true rfl⟩ dX11_book_11 ?_
  refine lv_if_eq (tgt := 41) S.1 S.2.1 dX11_book_14 (by decide) (fun hc => ?_) (fun hc => ?_)
  · have hF := it_pos hc hF
    refine lv_iconst (v := (-1 : Int32)) S.1 S.2.1 dX11_book_41 (by decide) ?_
    obtain rfl := Option.some.inj hF
    exact rr_i S hr hlk hW rfl rfl dX11_book_42
  · have hF := it_neg hc hF
    refine lv_iload_n S.1 S.2.1 dX11_book_17 rfl (lv_at hl 2 rfl) ?_
    refine lv_iconst (v := (0 : Int32)) S.1 S.2.1 dX11_book_18 (by decide) ?_
    refine lv_bipush (v := (7 : Int32)) S.1 S.2.1 dX11_book_19 (by decide) ?_
    obtain ⟨u2, hu2, hF⟩ := bd_of hF
    refine sc_i (k := 3) (As := [.int a2, .int ((0 : Int32)), .int ((7 : Int32))]) (rest := []) (cR_in l hu2) S (gd_S m_391 m_392 m_5 m_393) rfl rfl (by decide +kernel) ⟨Nat.le_of_ble_eq_true rfl, Nat.le_of_ble_eq_true rfl⟩ rfl hl.1 rfl (Nat.le_of_ble_eq_true rfl) ⟨Nat.le_of_ble_eq_true rfl, Nat.le_of_ble_eq_true rfl⟩ dX11_book_21 ?_
    refine lv_if_eq (tgt := 41) S.1 S.2.1 dX11_book_24 (by decide) (fun hc => ?_) (fun hc => ?_)
    · have hF := it_pos hc hF
      refine lv_iconst (v := (-1 : Int32)) S.1 S.2.1 dX11_book_41 (by decide) ?_
      obtain rfl := Option.some.inj hF
      exact rr_i S hr hlk hW rfl rfl dX11_book_42
    · have hF := it_neg hc hF
      refine lv_aload_n S.1 S.2.1 dX11_book_27 rfl (lv_at hl 0 rfl) ?_
      refine rg_books S hW dX11_book_28 ?_
      refine lv_bipush (v := (8 : Int32)) S.1 S.2.1 dX11_book_31 (by decide) ?_
      refine lv_iload_n S.1 S.2.1 dX11_book_33 rfl (lv_at hl 1 rfl) ?_
      refine lv_imul S.1 S.2.1 dX11_book_34 ?_
      refine lv_iload_n S.1 S.2.1 dX11_book_35 rfl (lv_at hl 2 rfl) ?_
      refine lv_iadd S.1 S.2.1 dX11_book_36 ?_
      obtain ⟨h3, hF⟩ := gd_of hF
      refine rl_books S hW h3 dX11_book_37 ?_
      refine lv_goto (tgt := 42) S.1 S.2.1 dX11_book_38 (by decide) ?_
      obtain rfl := Option.some.inj hF
      exact rr_i S hr hlk hW rfl rfl dX11_book_42
def fR_count_L68 (σ : SR) (l1 : Int32) : Nat → Int32 → Int32 → Option (Int32)
  | 0, _, _ => none
  | n + 1, x2, x3 =>
    if (gz σ 19) ≤ x3 then
    some ((x2))
    else
    if x3 < 0 ∨ 40 ≤ (x3).toNatClampNeg then none else
    Option.bind (if (gf σ 12 (x3).toNatClampNeg) = (l1 - (2 : Int32)) then
    some ((x2 + (1 : Int32)))
    else
    some (x2)) (fun u2 =>
    fR_count_L68 σ l1 n u2 ((x3 + (1 : Int32))))
def fR_count (σ : SR) (a1 : Int32) : Option (Int32 × SR) :=
  if a1 = (0 : Int32) then
  some ((gz (pz σ 31 ((0 : Int32))) 20), pz σ 31 ((0 : Int32)))
  else if a1 = (1 : Int32) then
  some ((gz (pz σ 31 ((0 : Int32))) 19), pz σ 31 ((0 : Int32)))
  else if a1 = (2 : Int32) then
  Option.bind (fR_count_L68 (pz σ 31 ((0 : Int32))) a1 1000 ((0 : Int32)) ((0 : Int32))) (fun u1 =>
  some (u1, pz σ 31 ((0 : Int32))))
  else if a1 = (3 : Int32) then
  Option.bind (fR_count_L68 (pz σ 31 ((0 : Int32))) a1 1000 ((0 : Int32)) ((0 : Int32))) (fun u5 =>
  some (u5, pz σ 31 ((0 : Int32))))
  else if a1 = (4 : Int32) then
  Option.bind (fR_count_L68 (pz σ 31 ((0 : Int32))) a1 1000 ((0 : Int32)) ((0 : Int32))) (fun u9 =>
  some (u9, pz σ 31 ((0 : Int32))))
  else if a1 = (5 : Int32) then
  some ((gz (pz σ 31 ((0 : Int32))) 27), pz σ 31 ((0 : Int32)))
  else if a1 = (6 : Int32) then
  some ((gz (pz σ 31 ((0 : Int32))) 7), pz σ 31 ((0 : Int32)))
  else if a1 = (7 : Int32) then
  some ((gz (pz σ 31 ((0 : Int32))) 1), pz σ 31 ((0 : Int32)))
  else 
  some ((-1 : Int32), pz σ 31 ((0 : Int32)))
set_option maxRecDepth 100000 in
set_option maxHeartbeats 4000000 in
theorem cR_count (l : Launch) (D : va_G) (ad : Nat → Nat) (cA : Nat → ClassId) (kk : Nat → Nat) (hd : RD ad) {σ : SR} {a1 : Int32} {o : Int32 × SR} (hF : fR_count σ a1 = some o) : Mi l yX11_count cX11_count 4 .int { frames := 0, cells := 0, slots := 0, locals := 0 } [.ref (ad 35), .int a1] (RP D ad cA kk σ) o.1 (RP D ad cA kk (o.2)) (RA ad) := by
  refine Mi.of (own := RX11) rfl (by decide +kernel) (Nat.le_of_ble_eq_true rfl) ?_
  intro p e s m args below meth c ls S hr hlk hP hl
  have hW := RW.start hd hP
  have hl : lv_has ls 4 [(0, .ref (ad 35)), (1, .int a1)] := hl
  rw [fR_count] at hF
  refine lv_aload_n S.1 S.2.1 dX11_count_0 rfl (lv_at hl 0 rfl) ?_
  refine lv_iconst (v := (0 : Int32)) S.1 S.2.1 dX11_count_1 (by decide) ?_
  refine rp_thrown S hW dX11_count_2 (fun H locs hW => ?_)
  refine lv_iconst (v := (0 : Int32)) S.1 S.2.1 dX11_count_5 (by decide) ?_
  refine lv_istore_n (lv' := [(2, .int ((0 : Int32))), (0, .ref (ad 35)), (1, .int a1)]) S.1 S.2.1 dX11_count_6 rfl hl (by decide) rfl (fun ls hl => ?_)
  refine lv_iload_n S.1 S.2.1 dX11_count_7 rfl (lv_at hl 2 rfl) ?_
  rcases Classical.em (a1 = (0 : Int32)) with hc0 | hc0
  · have hF := it_pos hc0 hF
    refine lv_tableIn (off := 48) (tgt := 56) S.1 S.2.1 dX11_count_8 (by rw [hc0]; decide) (by rw [hc0]; decide) (by rw [hc0]; decide) (by decide) ?_
    refine lv_aload_n S.1 S.2.1 dX11_count_56 rfl (lv_at hl 1 rfl) ?_
    refine rg_month S hW dX11_count_57 ?_
    obtain rfl := Option.some.inj hF
    exact rr_i S hr hlk hW rfl rfl dX11_count_60
  · have hF := it_neg hc0 hF
    rcases Classical.em (a1 = (1 : Int32)) with hc1 | hc1
    · have hF := it_pos hc1 hF
      refine lv_tableIn (off := 53) (tgt := 61) S.1 S.2.1 dX11_count_8 (by rw [hc1]; decide) (by rw [hc1]; decide) (by rw [hc1]; decide) (by decide) ?_
      refine lv_aload_n S.1 S.2.1 dX11_count_61 rfl (lv_at hl 1 rfl) ?_
      refine rg_members S hW dX11_count_62 ?_
      obtain rfl := Option.some.inj hF
      exact rr_i S hr hlk hW rfl rfl dX11_count_65
    · have hF := it_neg hc1 hF
      rcases Classical.em (a1 = (2 : Int32)) with hc2 | hc2
      · have hF := it_pos hc2 hF
        refine lv_tableIn (off := 58) (tgt := 66) S.1 S.2.1 dX11_count_8 (by rw [hc2]; decide) (by rw [hc2]; decide) (by rw [hc2]; decide) (by decide) ?_
        refine lv_iconst (v := (0 : Int32)) S.1 S.2.1 dX11_count_66 (by decide) ?_
        refine lv_istore_n (lv' := [(3, .int ((0 : Int32))), (2, .int ((0 : Int32))), (0, .ref (ad 35)), (1, .int a1)]) S.1 S.2.1 dX11_count_67 rfl hl (by decide) rfl (fun ls hl => ?_)
        obtain ⟨u1, hX, hF⟩ := bd_of hF
        refine jn1 (fun H locs ls => lv_has ls 4 [(2, .int u1)] ∧ RW D ad cA kk (pz σ 31 ((0 : Int32))) s (RA ad) H locs) 97 [] (fun H locs ls hJ => ?_) (fun Ju1 => ?_)
        · obtain ⟨hl, hW⟩ := hJ
          refine lv_iload_n S.1 S.2.1 dX11_count_97 rfl (lv_at hl 0 rfl) ?_
          obtain rfl := Option.some.inj hF
          exact rr_i S hr hlk hW rfl rfl dX11_count_98
        · refine lpW (fun (xu1 : Int32 × Int32) H locs ls => lv_has ls 4 [(0, .ref (ad 35)), (1, .int a1), (2, .int xu1.1), (3, .int xu1.2)] ∧ RW D ad cA kk (pz σ 31 ((0 : Int32))) s (RA ad) H locs) 68 (fun n xu1 => fR_count_L68 (pz σ 31 ((0 : Int32))) a1 n xu1.1 xu1.2) u1 (fun _ => rfl) (fun n xu1 ihu1 hF H locs ls hJ => ?_) 1000 ((0 : Int32), (0 : Int32)) hX _ _ _ ⟨lv_sub hl [2, 3, 1, 0] rfl, hW⟩
          obtain ⟨hl, hW⟩ := hJ
          have hF : fR_count_L68 (pz σ 31 ((0 : Int32))) a1 (n + 1) xu1.1 xu1.2 = some u1 := hF
          rw [fR_count_L68] at hF
          refine lv_iload_n S.1 S.2.1 dX11_count_68 rfl (lv_at hl 3 rfl) ?_
          refine lv_aload_n S.1 S.2.1 dX11_count_69 rfl (lv_at hl 0 rfl) ?_
          refine rg_members S hW dX11_count_70 ?_
          refine lv_icmp_ge (tgt := 97) S.1 S.2.1 dX11_count_73 (by decide) (fun hc => ?_) (fun hc => ?_)
          · have hF := it_pos hc hF
            obtain rfl := Option.some.inj hF
            exact Ju1 _ _ _ ⟨lv_sub hl [2] rfl, hW⟩
          · have hF := it_neg hc hF
            refine lv_aload_n S.1 S.2.1 dX11_count_76 rfl (lv_at hl 0 rfl) ?_
            refine rg_state S hW dX11_count_77 ?_
            refine lv_iload_n S.1 S.2.1 dX11_count_80 rfl (lv_at hl 3 rfl) ?_
            obtain ⟨h3, hF⟩ := gd_of hF
            refine rl_state S hW h3 dX11_count_81 ?_
            refine lv_iload_n S.1 S.2.1 dX11_count_82 rfl (lv_at hl 1 rfl) ?_
            refine lv_iconst (v := (2 : Int32)) S.1 S.2.1 dX11_count_83 (by decide) ?_
            refine lv_isub S.1 S.2.1 dX11_count_84 ?_
            obtain ⟨u4, hX, hF⟩ := bd_of hF
            refine jn1 (fun H locs ls => lv_has ls 4 [(0, .ref (ad 35)), (1, .int a1), (2, .int u4), (3, .int xu1.2)] ∧ RW D ad cA kk (pz σ 31 ((0 : Int32))) s (RA ad) H locs) 91 [] (fun H locs ls hJ => ?_) (fun Ju4 => ?_)
            · obtain ⟨hl, hW⟩ := hJ
              refine lv_iinc (v := (xu1.2 + (1 : Int32))) (lv' := [(3, .int ((xu1.2 + (1 : Int32)))), (0, .ref (ad 35)), (1, .int a1), (2, .int u4)]) S.1 S.2.1 dX11_count_91 hl (k := 3) rfl rfl (by decide) rfl (fun ls hl => ?_)
              refine lv_goto (tgt := 68) S.1 S.2.1 dX11_count_94 (by decide) ?_
              exact ihu1 (u4, (xu1.2 + (1 : Int32))) hF _ _ _ ⟨lv_sub hl [1, 2, 3, 0] rfl, hW⟩
            · have hF := hX
              refine lv_icmp_ne (tgt := 91) S.1 S.2.1 dX11_count_85 (by decide) (fun hc => ?_) (fun hc => ?_)
              · have hF := it_neg hc hF
                obtain rfl := Option.some.inj hF
                exact Ju4 _ _ _ ⟨lv_sub hl [0, 1, 2, 3] rfl, hW⟩
              · have hF := it_pos hc hF
                refine lv_iinc (v := (xu1.1 + (1 : Int32))) (lv' := [(2, .int ((xu1.1 + (1 : Int32)))), (0, .ref (ad 35)), (1, .int a1), (3, .int xu1.2)]) S.1 S.2.1 dX11_count_88 hl (k := 2) rfl rfl (by decide) rfl (fun ls hl => ?_)
                obtain rfl := Option.some.inj hF
                exact Ju4 _ _ _ ⟨lv_sub hl [1, 2, 0, 3] rfl, hW⟩
      · have hF := it_neg hc2 hF
        rcases Classical.em (a1 = (3 : Int32)) with hc3 | hc3
        · have hF := it_pos hc3 hF
          refine lv_tableIn (off := 58) (tgt := 66) S.1 S.2.1 dX11_count_8 (by rw [hc3]; decide) (by rw [hc3]; decide) (by rw [hc3]; decide) (by decide) ?_
          refine lv_iconst (v := (0 : Int32)) S.1 S.2.1 dX11_count_66 (by decide) ?_
          refine lv_istore_n (lv' := [(3, .int ((0 : Int32))), (2, .int ((0 : Int32))), (0, .ref (ad 35)), (1, .int a1)]) S.1 S.2.1 dX11_count_67 rfl hl (by decide) rfl (fun ls hl => ?_)
          obtain ⟨u5, hX, hF⟩ := bd_of hF
          refine jn1 (fun H locs ls => lv_has ls 4 [(2, .int u5)] ∧ RW D ad cA kk (pz σ 31 ((0 : Int32))) s (RA ad) H locs) 97 [] (fun H locs ls hJ => ?_) (fun Ju5 => ?_)
          · obtain ⟨hl, hW⟩ := hJ
            refine lv_iload_n S.1 S.2.1 dX11_count_97 rfl (lv_at hl 0 rfl) ?_
            obtain rfl := Option.some.inj hF
            exact rr_i S hr hlk hW rfl rfl dX11_count_98
          · refine lpW (fun (xu5 : Int32 × Int32) H locs ls => lv_has ls 4 [(0, .ref (ad 35)), (1, .int a1), (2, .int xu5.1), (3, .int xu5.2)] ∧ RW D ad cA kk (pz σ 31 ((0 : Int32))) s (RA ad) H locs) 68 (fun n xu5 => fR_count_L68 (pz σ 31 ((0 : Int32))) a1 n xu5.1 xu5.2) u5 (fun _ => rfl) (fun n xu5 ihu5 hF H locs ls hJ => ?_) 1000 ((0 : Int32), (0 : Int32)) hX _ _ _ ⟨lv_sub hl [2, 3, 1, 0] rfl, hW⟩
            obtain ⟨hl, hW⟩ := hJ
            have hF : fR_count_L68 (pz σ 31 ((0 : Int32))) a1 (n + 1) xu5.1 xu5.2 = some u5 := hF
            rw [fR_count_L68] at hF
            refine lv_iload_n S.1 S.2.1 dX11_count_68 rfl (lv_at hl 3 rfl) ?_
            refine lv_aload_n S.1 S.2.1 dX11_count_69 rfl (lv_at hl 0 rfl) ?_
            refine rg_members S hW dX11_count_70 ?_
            refine lv_icmp_ge (tgt := 97) S.1 S.2.1 dX11_count_73 (by decide) (fun hc => ?_) (fun hc => ?_)
            · have hF := it_pos hc hF
              obtain rfl := Option.some.inj hF
              exact Ju5 _ _ _ ⟨lv_sub hl [2] rfl, hW⟩
            · have hF := it_neg hc hF
              refine lv_aload_n S.1 S.2.1 dX11_count_76 rfl (lv_at hl 0 rfl) ?_
              refine rg_state S hW dX11_count_77 ?_
              refine lv_iload_n S.1 S.2.1 dX11_count_80 rfl (lv_at hl 3 rfl) ?_
              obtain ⟨h7, hF⟩ := gd_of hF
              refine rl_state S hW h7 dX11_count_81 ?_
              refine lv_iload_n S.1 S.2.1 dX11_count_82 rfl (lv_at hl 1 rfl) ?_
              refine lv_iconst (v := (2 : Int32)) S.1 S.2.1 dX11_count_83 (by decide) ?_
              refine lv_isub S.1 S.2.1 dX11_count_84 ?_
              obtain ⟨u8, hX, hF⟩ := bd_of hF
              refine jn1 (fun H locs ls => lv_has ls 4 [(0, .ref (ad 35)), (1, .int a1), (2, .int u8), (3, .int xu5.2)] ∧ RW D ad cA kk (pz σ 31 ((0 : Int32))) s (RA ad) H locs) 91 [] (fun H locs ls hJ => ?_) (fun Ju8 => ?_)
              · obtain ⟨hl, hW⟩ := hJ
                refine lv_iinc (v := (xu5.2 + (1 : Int32))) (lv' := [(3, .int ((xu5.2 + (1 : Int32)))), (0, .ref (ad 35)), (1, .int a1), (2, .int u8)]) S.1 S.2.1 dX11_count_91 hl (k := 3) rfl rfl (by decide) rfl (fun ls hl => ?_)
                refine lv_goto (tgt := 68) S.1 S.2.1 dX11_count_94 (by decide) ?_
                exact ihu5 (u8, (xu5.2 + (1 : Int32))) hF _ _ _ ⟨lv_sub hl [1, 2, 3, 0] rfl, hW⟩
              · have hF := hX
                refine lv_icmp_ne (tgt := 91) S.1 S.2.1 dX11_count_85 (by decide) (fun hc => ?_) (fun hc => ?_)
                · have hF := it_neg hc hF
                  obtain rfl := Option.some.inj hF
                  exact Ju8 _ _ _ ⟨lv_sub hl [0, 1, 2, 3] rfl, hW⟩
                · have hF := it_pos hc hF
                  refine lv_iinc (v := (xu5.1 + (1 : Int32))) (lv' := [(2, .int ((xu5.1 + (1 : Int32)))), (0, .ref (ad 35)), (1, .int a1), (3, .int xu5.2)]) S.1 S.2.1 dX11_count_88 hl (k := 2) rfl rfl (by decide) rfl (fun ls hl => ?_)
                  obtain rfl := Option.some.inj hF
                  exact Ju8 _ _ _ ⟨lv_sub hl [1, 2, 0, 3] rfl, hW⟩
        · have hF := it_neg hc3 hF
          rcases Classical.em (a1 = (4 : Int32)) with hc4 | hc4
          · have hF := it_pos hc4 hF
            refine lv_tableIn (off := 58) (tgt := 66) S.1 S.2.1 dX11_count_8 (by rw [hc4]; decide) (by rw [hc4]; decide) (by rw [hc4]; decide) (by decide) ?_
            refine lv_iconst (v := (0 : Int32)) S.1 S.2.1 dX11_count_66 (by decide) ?_
            refine lv_istore_n (lv' := [(3, .int ((0 : Int32))), (2, .int ((0 : Int32))), (0, .ref (ad 35)), (1, .int a1)]) S.1 S.2.1 dX11_count_67 rfl hl (by decide) rfl (fun ls hl => ?_)
            obtain ⟨u9, hX, hF⟩ := bd_of hF
            refine jn1 (fun H locs ls => lv_has ls 4 [(2, .int u9)] ∧ RW D ad cA kk (pz σ 31 ((0 : Int32))) s (RA ad) H locs) 97 [] (fun H locs ls hJ => ?_) (fun Ju9 => ?_)
            · obtain ⟨hl, hW⟩ := hJ
              refine lv_iload_n S.1 S.2.1 dX11_count_97 rfl (lv_at hl 0 rfl) ?_
              obtain rfl := Option.some.inj hF
              exact rr_i S hr hlk hW rfl rfl dX11_count_98
            · refine lpW (fun (xu9 : Int32 × Int32) H locs ls => lv_has ls 4 [(0, .ref (ad 35)), (1, .int a1), (2, .int xu9.1), (3, .int xu9.2)] ∧ RW D ad cA kk (pz σ 31 ((0 : Int32))) s (RA ad) H locs) 68 (fun n xu9 => fR_count_L68 (pz σ 31 ((0 : Int32))) a1 n xu9.1 xu9.2) u9 (fun _ => rfl) (fun n xu9 ihu9 hF H locs ls hJ => ?_) 1000 ((0 : Int32), (0 : Int32)) hX _ _ _ ⟨lv_sub hl [2, 3, 1, 0] rfl, hW⟩
              obtain ⟨hl, hW⟩ := hJ
              have hF : fR_count_L68 (pz σ 31 ((0 : Int32))) a1 (n + 1) xu9.1 xu9.2 = some u9 := hF
              rw [fR_count_L68] at hF
              refine lv_iload_n S.1 S.2.1 dX11_count_68 rfl (lv_at hl 3 rfl) ?_
              refine lv_aload_n S.1 S.2.1 dX11_count_69 rfl (lv_at hl 0 rfl) ?_
              refine rg_members S hW dX11_count_70 ?_
              refine lv_icmp_ge (tgt := 97) S.1 S.2.1 dX11_count_73 (by decide) (fun hc => ?_) (fun hc => ?_)
              · have hF := it_pos hc hF
                obtain rfl := Option.some.inj hF
                exact Ju9 _ _ _ ⟨lv_sub hl [2] rfl, hW⟩
              · have hF := it_neg hc hF
                refine lv_aload_n S.1 S.2.1 dX11_count_76 rfl (lv_at hl 0 rfl) ?_
                refine rg_state S hW dX11_count_77 ?_
                refine lv_iload_n S.1 S.2.1 dX11_count_80 rfl (lv_at hl 3 rfl) ?_
                obtain ⟨h11, hF⟩ := gd_of hF
                refine rl_state S hW h11 dX11_count_81 ?_
                refine lv_iload_n S.1 S.2.1 dX11_count_82 rfl (lv_at hl 1 rfl) ?_
                refine lv_iconst (v := (2 : Int32)) S.1 S.2.1 dX11_count_83 (by decide) ?_
                refine lv_isub S.1 S.2.1 dX11_count_84 ?_
                obtain ⟨u12, hX, hF⟩ := bd_of hF
                refine jn1 (fun H locs ls => lv_has ls 4 [(0, .ref (ad 35)), (1, .int a1), (2, .int u12), (3, .int xu9.2)] ∧ RW D ad cA kk (pz σ 31 ((0 : Int32))) s (RA ad) H locs) 91 [] (fun H locs ls hJ => ?_) (fun Ju12 => ?_)
                · obtain ⟨hl, hW⟩ := hJ
                  refine lv_iinc (v := (xu9.2 + (1 : Int32))) (lv' := [(3, .int ((xu9.2 + (1 : Int32)))), (0, .ref (ad 35)), (1, .int a1), (2, .int u12)]) S.1 S.2.1 dX11_count_91 hl (k := 3) rfl rfl (by decide) rfl (fun ls hl => ?_)
                  refine lv_goto (tgt := 68) S.1 S.2.1 dX11_count_94 (by decide) ?_
                  exact ihu9 (u12, (xu9.2 + (1 : Int32))) hF _ _ _ ⟨lv_sub hl [1, 2, 3, 0] rfl, hW⟩
                · have hF := hX
                  refine lv_icmp_ne (tgt := 91) S.1 S.2.1 dX11_count_85 (by decide) (fun hc => ?_) (fun hc => ?_)
                  · have hF := it_neg hc hF
                    obtain rfl := Option.some.inj hF
                    exact Ju12 _ _ _ ⟨lv_sub hl [0, 1, 2, 3] rfl, hW⟩
                  · have hF := it_pos hc hF
                    refine lv_iinc (v := (xu9.1 + (1 : Int32))) (lv' := [(2, .int ((xu9.1 + (1 : Int32)))), (0, .ref (ad 35)), (1, .int a1), (3, .int xu9.2)]) S.1 S.2.1 dX11_count_88 hl (k := 2) rfl rfl (by decide) rfl (fun ls hl => ?_)
                    obtain rfl := Option.some.inj hF
                    exact Ju12 _ _ _ ⟨lv_sub hl [1, 2, 0, 3] rfl, hW⟩
          · have hF := it_neg hc4 hF
            rcases Classical.em (a1 = (5 : Int32)) with hc5 | hc5
            · have hF := it_pos hc5 hF
              refine lv_tableIn (off := 91) (tgt := 99) S.1 S.2.1 dX11_count_8 (by rw [hc5]; decide) (by rw [hc5]; decide) (by rw [hc5]; decide) (by decide) ?_
              refine lv_aload_n S.1 S.2.1 dX11_count_99 rfl (lv_at hl 1 rfl) ?_
              refine rg_entries S hW dX11_count_100 ?_
              obtain rfl := Option.some.inj hF
              exact rr_i S hr hlk hW rfl rfl dX11_count_103
            · have hF := it_neg hc5 hF
              rcases Classical.em (a1 = (6 : Int32)) with hc6 | hc6
              · have hF := it_pos hc6 hF
                refine lv_tableIn (off := 96) (tgt := 104) S.1 S.2.1 dX11_count_8 (by rw [hc6]; decide) (by rw [hc6]; decide) (by rw [hc6]; decide) (by decide) ?_
                refine lv_aload_n S.1 S.2.1 dX11_count_104 rfl (lv_at hl 1 rfl) ?_
                refine rg_rules S hW dX11_count_105 ?_
                obtain rfl := Option.some.inj hF
                exact rr_i S hr hlk hW rfl rfl dX11_count_108
              · have hF := it_neg hc6 hF
                rcases Classical.em (a1 = (7 : Int32)) with hc7 | hc7
                · have hF := it_pos hc7 hF
                  refine lv_tableIn (off := 101) (tgt := 109) S.1 S.2.1 dX11_count_8 (by rw [hc7]; decide) (by rw [hc7]; decide) (by rw [hc7]; decide) (by decide) ?_
                  refine lv_aload_n S.1 S.2.1 dX11_count_109 rfl (lv_at hl 1 rfl) ?_
                  refine rg_taped S hW dX11_count_110 ?_
                  obtain rfl := Option.some.inj hF
                  exact rr_i S hr hlk hW rfl rfl dX11_count_113
                · have hF := it_neg hc7 hF
                  have n0 := sw_ne hc0
                  have n1 := sw_ne hc1
                  have n2 := sw_ne hc2
                  have n3 := sw_ne hc3
                  have n4 := sw_ne hc4
                  have n5 := sw_ne hc5
                  have n6 := sw_ne hc6
                  have n7 := sw_ne hc7
                  refine lv_tableOut (tgt := 114) S.1 S.2.1 dX11_count_8 (by simp only [tI_0, tI_1, tI_2, tI_3, tI_4, tI_5, tI_6, tI_7] at n0 n1 n2 n3 n4 n5 n6 n7; omega) (by decide) ?_
                  refine lv_iconst (v := (-1 : Int32)) S.1 S.2.1 dX11_count_114 (by decide) ?_
                  obtain rfl := Option.some.inj hF
                  exact rr_i S hr hlk hW rfl rfl dX11_count_115
def fR_entry (σ : SR) (a1 : Int32) (a2 : Int32) : Option (Int64 × SR) :=
  Option.bind (fR_in a1 ((0 : Int32)) (((gz (pz σ 31 ((0 : Int32))) 27) - (1 : Int32)))) (fun u1 =>
  if u1 = 0 then
  some ((0 : Int64), pz (pz σ 31 ((0 : Int32))) 31 ((1 : Int32)))
  else
  Option.bind (fR_in a2 ((0 : Int32)) ((4 : Int32))) (fun u2 =>
  if u2 = 0 then
  some ((0 : Int64), pz (pz σ 31 ((0 : Int32))) 31 ((1 : Int32)))
  else
  if a2 = (0 : Int32) then
  if a1 < 0 ∨ 900 ≤ (a1).toNatClampNeg then none else
  some (((gf (pz σ 31 ((0 : Int32))) 22 (a1).toNatClampNeg)).toInt64, pz σ 31 ((0 : Int32)))
  else if a2 = (1 : Int32) then
  if a1 < 0 ∨ 900 ≤ (a1).toNatClampNeg then none else
  some (((gf (pz σ 31 ((0 : Int32))) 23 (a1).toNatClampNeg)).toInt64, pz σ 31 ((0 : Int32)))
  else if a2 = (2 : Int32) then
  if a1 < 0 ∨ 900 ≤ (a1).toNatClampNeg then none else
  some (((gf (pz σ 31 ((0 : Int32))) 24 (a1).toNatClampNeg)).toInt64, pz σ 31 ((0 : Int32)))
  else if a2 = (3 : Int32) then
  if a1 < 0 ∨ 900 ≤ (a1).toNatClampNeg then none else
  some ((gg (pz σ 31 ((0 : Int32))) (a1).toNatClampNeg), pz σ 31 ((0 : Int32)))
  else 
  if a1 < 0 ∨ 900 ≤ (a1).toNatClampNeg then none else
  some (((gf (pz σ 31 ((0 : Int32))) 26 (a1).toNatClampNeg)).toInt64, pz σ 31 ((0 : Int32)))))
set_option maxRecDepth 100000 in
set_option maxHeartbeats 4000000 in
theorem cR_entry (l : Launch) (D : va_G) (ad : Nat → Nat) (cA : Nat → ClassId) (kk : Nat → Nat) (hd : RD ad) {σ : SR} {a1 : Int32} {a2 : Int32} {o : Int64 × SR} (hF : fR_entry σ a1 a2 = some o) : Ml l yX11_entry cX11_entry 3 { frames := 1, cells := 0, slots := 0, locals := 22 } [.ref (ad 35), .int a1, .int a2] (RP D ad cA kk σ) o.1 (RP D ad cA kk (o.2)) (RA ad) := by
  refine Ml.of (own := RX11) rfl (by decide +kernel) (Nat.le_of_ble_eq_true rfl) ?_
  intro p e s m args below meth c ls S hr hlk hP hl
  have hW := RW.start hd hP
  have hl : lv_has ls 3 [(0, .ref (ad 35)), (1, .int a1), (2, .int a2)] := hl
  rw [fR_entry] at hF
  refine lv_aload_n S.1 S.2.1 dX11_entry_0 rfl (lv_at hl 0 rfl) ?_
  refine lv_iconst (v := (0 : Int32)) S.1 S.2.1 dX11_entry_1 (by decide) ?_
  refine rp_thrown S hW dX11_entry_2 (fun H locs hW => ?_)
  refine lv_iload_n S.1 S.2.1 dX11_entry_5 rfl (lv_at hl 1 rfl) ?_
  refine lv_iconst (v := (0 : Int32)) S.1 S.2.1 dX11_entry_6 (by decide) ?_
  refine lv_aload_n S.1 S.2.1 dX11_entry_7 rfl (lv_at hl 0 rfl) ?_
  refine rg_entries S hW dX11_entry_8 ?_
  refine lv_iconst (v := (1 : Int32)) S.1 S.2.1 dX11_entry_11 (by decide) ?_
  refine lv_isub S.1 S.2.1 dX11_entry_12 ?_
  obtain ⟨u1, hu1, hF⟩ := bd_of hF
  refine sc_i (k := 3) (As := [.int a1, .int ((0 : Int32)), .int (((gz (pz σ 31 ((0 : Int32))) 27) - (1 : Int32)))]) (rest := []) (cR_in l hu1) S (gd_S m_391 m_392 m_5 m_393) rfl rfl (by decide +kernel) ⟨Nat.le_of_ble_eq_true rfl, Nat.le_of_ble_eq_true rfl⟩ rfl hl.1 rfl (Nat.le_of_ble_eq_true rfl) ⟨Nat.le_of_ble_eq_true rfl, Nat.le_of_ble_eq_true rfl⟩ dX11_entry_13 ?_
  refine lv_if_eq (tgt := 28) S.1 S.2.1 dX11_entry_16 (by decide) (fun hc => ?_) (fun hc => ?_)
  · have hF := it_pos hc hF
    refine lv_aload_n S.1 S.2.1 dX11_entry_28 rfl (lv_at hl 0 rfl) ?_
    refine lv_iconst (v := (1 : Int32)) S.1 S.2.1 dX11_entry_29 (by decide) ?_
    refine rp_thrown S hW dX11_entry_30 (fun H locs hW => ?_)
    refine lv_lconst (v := (0 : Int64)) S.1 S.2.1 dX11_entry_33 (by decide) ?_
    obtain rfl := Option.some.inj hF
    exact rr_l S hr hlk hW rfl dX11_entry_34
  · have hF := it_neg hc hF
    refine lv_iload_n S.1 S.2.1 dX11_entry_19 rfl (lv_at hl 2 rfl) ?_
    refine lv_iconst (v := (0 : Int32)) S.1 S.2.1 dX11_entry_20 (by decide) ?_
    refine lv_iconst (v := (4 : Int32)) S.1 S.2.1 dX11_entry_21 (by decide) ?_
    obtain ⟨u2, hu2, hF⟩ := bd_of hF
    refine sc_i (k := 3) (As := [.int a2, .int ((0 : Int32)), .int ((4 : Int32))]) (rest := []) (cR_in l hu2) S (gd_S m_391 m_392 m_5 m_393) rfl rfl (by decide +kernel) ⟨Nat.le_of_ble_eq_true rfl, Nat.le_of_ble_eq_true rfl⟩ rfl hl.1 rfl (Nat.le_of_ble_eq_true rfl) ⟨Nat.le_of_ble_eq_true rfl, Nat.le_of_ble_eq_true rfl⟩ dX11_entry_22 ?_
    refine lv_if_ne (tgt := 35) S.1 S.2.1 dX11_entry_25 (by decide) (fun hc => ?_) (fun hc => ?_)
    · have hF := it_neg hc hF
      refine lv_iload_n S.1 S.2.1 dX11_entry_35 rfl (lv_at hl 2 rfl) ?_
      rcases Classical.em (a2 = (0 : Int32)) with hc0 | hc0
      · have hF := it_pos hc0 hF
        refine lv_tableIn (off := 32) (tgt := 68) S.1 S.2.1 dX11_entry_36 (by rw [hc0]; decide) (by rw [hc0]; decide) (by rw [hc0]; decide) (by decide) ?_
        refine lv_aload_n S.1 S.2.1 dX11_entry_68 rfl (lv_at hl 0 rfl) ?_
        refine rg_entryMember S hW dX11_entry_69 ?_
        refine lv_iload_n S.1 S.2.1 dX11_entry_72 rfl (lv_at hl 1 rfl) ?_
        obtain ⟨h3, hF⟩ := gd_of hF
        refine rl_entryMember S hW h3 dX11_entry_73 ?_
        refine lv_i2l (v := ((gf (pz σ 31 ((0 : Int32))) 22 (a1).toNatClampNeg)).toInt64) S.1 S.2.1 dX11_entry_74 rfl ?_
        obtain rfl := Option.some.inj hF
        exact rr_l S hr hlk hW rfl dX11_entry_75
      · have hF := it_neg hc0 hF
        rcases Classical.em (a2 = (1 : Int32)) with hc1 | hc1
        · have hF := it_pos hc1 hF
          refine lv_tableIn (off := 40) (tgt := 76) S.1 S.2.1 dX11_entry_36 (by rw [hc1]; decide) (by rw [hc1]; decide) (by rw [hc1]; decide) (by decide) ?_
          refine lv_aload_n S.1 S.2.1 dX11_entry_76 rfl (lv_at hl 0 rfl) ?_
          refine rg_entryMonth S hW dX11_entry_77 ?_
          refine lv_iload_n S.1 S.2.1 dX11_entry_80 rfl (lv_at hl 1 rfl) ?_
          obtain ⟨h4, hF⟩ := gd_of hF
          refine rl_entryMonth S hW h4 dX11_entry_81 ?_
          refine lv_i2l (v := ((gf (pz σ 31 ((0 : Int32))) 23 (a1).toNatClampNeg)).toInt64) S.1 S.2.1 dX11_entry_82 rfl ?_
          obtain rfl := Option.some.inj hF
          exact rr_l S hr hlk hW rfl dX11_entry_83
        · have hF := it_neg hc1 hF
          rcases Classical.em (a2 = (2 : Int32)) with hc2 | hc2
          · have hF := it_pos hc2 hF
            refine lv_tableIn (off := 48) (tgt := 84) S.1 S.2.1 dX11_entry_36 (by rw [hc2]; decide) (by rw [hc2]; decide) (by rw [hc2]; decide) (by decide) ?_
            refine lv_aload_n S.1 S.2.1 dX11_entry_84 rfl (lv_at hl 0 rfl) ?_
            refine rg_entrySort S hW dX11_entry_85 ?_
            refine lv_iload_n S.1 S.2.1 dX11_entry_88 rfl (lv_at hl 1 rfl) ?_
            obtain ⟨h5, hF⟩ := gd_of hF
            refine rl_entrySort S hW h5 dX11_entry_89 ?_
            refine lv_i2l (v := ((gf (pz σ 31 ((0 : Int32))) 24 (a1).toNatClampNeg)).toInt64) S.1 S.2.1 dX11_entry_90 rfl ?_
            obtain rfl := Option.some.inj hF
            exact rr_l S hr hlk hW rfl dX11_entry_91
          · have hF := it_neg hc2 hF
            rcases Classical.em (a2 = (3 : Int32)) with hc3 | hc3
            · have hF := it_pos hc3 hF
              refine lv_tableIn (off := 56) (tgt := 92) S.1 S.2.1 dX11_entry_36 (by rw [hc3]; decide) (by rw [hc3]; decide) (by rw [hc3]; decide) (by decide) ?_
              refine lv_aload_n S.1 S.2.1 dX11_entry_92 rfl (lv_at hl 0 rfl) ?_
              refine rg_entryAmount S hW dX11_entry_93 ?_
              refine lv_iload_n S.1 S.2.1 dX11_entry_96 rfl (lv_at hl 1 rfl) ?_
              obtain ⟨h6, hF⟩ := gd_of hF
              refine rl_entryAmount S hW h6 dX11_entry_97 ?_
              obtain rfl := Option.some.inj hF
              exact rr_l S hr hlk hW rfl dX11_entry_98
            · have hF := it_neg hc3 hF
              have n0 := sw_ne hc0
              have n1 := sw_ne hc1
              have n2 := sw_ne hc2
              have n3 := sw_ne hc3
              refine lv_tableOut (tgt := 99) S.1 S.2.1 dX11_entry_36 (by simp only [tI_0, tI_1, tI_2, tI_3] at n0 n1 n2 n3; omega) (by decide) ?_
              refine lv_aload_n S.1 S.2.1 dX11_entry_99 rfl (lv_at hl 0 rfl) ?_
              refine rg_struck S hW dX11_entry_100 ?_
              refine lv_iload_n S.1 S.2.1 dX11_entry_103 rfl (lv_at hl 1 rfl) ?_
              obtain ⟨h7, hF⟩ := gd_of hF
              refine rl_struck S hW h7 dX11_entry_104 ?_
              refine lv_i2l (v := ((gf (pz σ 31 ((0 : Int32))) 26 (a1).toNatClampNeg)).toInt64) S.1 S.2.1 dX11_entry_105 rfl ?_
              obtain rfl := Option.some.inj hF
              exact rr_l S hr hlk hW rfl dX11_entry_106
    · have hF := it_pos hc hF
      refine lv_aload_n S.1 S.2.1 dX11_entry_28 rfl (lv_at hl 0 rfl) ?_
      refine lv_iconst (v := (1 : Int32)) S.1 S.2.1 dX11_entry_29 (by decide) ?_
      refine rp_thrown S hW dX11_entry_30 (fun H locs hW => ?_)
      refine lv_lconst (v := (0 : Int64)) S.1 S.2.1 dX11_entry_33 (by decide) ?_
      obtain rfl := Option.some.inj hF
      exact rr_l S hr hlk hW rfl dX11_entry_34
