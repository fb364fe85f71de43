def fR_move (σ : SR) (a1 : Int32) (a2 : Int32) : Option (Int32 × SR) :=
  Option.bind (fR_isMember (pz σ 31 ((0 : Int32))) a1) (fun u1 =>
  if u1 = 0 then
  some ((0 : Int32), pz σ 31 ((0 : Int32)))
  else
  Option.bind (fR_in a2 ((0 : Int32)) ((9 : Int32))) (fun u2 =>
  if u2 = 0 then
  some ((0 : Int32), pz σ 31 ((0 : Int32)))
  else
  if a1 < 0 ∨ 40 ≤ (a1).toNatClampNeg then none else
  if (gf (pz σ 31 ((0 : Int32))) 12 (a1).toNatClampNeg) = (2 : Int32) then
  some ((0 : Int32), pz σ 31 ((0 : Int32)))
  else
  some ((1 : Int32), pf (pz σ 31 ((0 : Int32))) 11 (a1).toNatClampNeg a2)))
set_option maxRecDepth 100000 in
set_option maxHeartbeats 4000000 in
theorem cR_move (l : Launch) (D : va_G) (ad : Nat → Nat) (cA : Nat → ClassId) (kk : Nat → Nat) (hd : RD ad) {σ : SR} {a1 : Int32} {a2 : Int32} {o : Int32 × SR} (hF : fR_move σ a1 a2 = some o) : Mi l yX11_move cX11_move 3 .boolean { frames := 2, cells := 0, slots := 0, locals := 43 } [.ref (ad 35), .int a1, .int a2] (RP D ad cA kk σ) o.1 (RP D ad cA kk (o.2)) (RA ad) := by
  refine Mi.of (own := RX11) rfl (by decide +kernel) (Nat.le_of_ble_eq_true rfl) ?_
  intro p e s m args below meth c ls S hr hlk hP hl
  have hW := RW.start hd hP
  have hl : lv_has ls 3 [(0, .ref (ad 35)), (1, .int a1), (2, .int a2)] := hl
  rw [fR_move] at hF
  refine lv_aload_n S.1 S.2.1 dX11_move_0 rfl (lv_at hl 0 rfl) ?_
  refine lv_iconst (v := (0 : Int32)) S.1 S.2.1 dX11_move_1 (by decide) ?_
  refine rp_thrown S hW dX11_move_2 (fun H locs hW => ?_)
  refine lv_aload_n S.1 S.2.1 dX11_move_5 rfl (lv_at hl 0 rfl) ?_
  refine lv_iload_n S.1 S.2.1 dX11_move_6 rfl (lv_at hl 1 rfl) ?_
  obtain ⟨u1, hu1, hF⟩ := bd_of hF
  refine rc_i (k := 1) (As := [.int a1]) (rest := []) (cR_isMember l D ad cA kk hd hu1) hd (fun _ h => h) S hW (gd_V m_600 m_601 m_602 m_5 m_603) (by decide +kernel) ⟨Nat.le_of_ble_eq_true rfl, Nat.le_of_ble_eq_true rfl⟩ rfl hl.1 rfl (Nat.le_of_ble_eq_true rfl) ⟨Nat.le_of_ble_eq_true rfl, Nat.le_of_ble_eq_true rfl⟩ dX11_move_7 (fun H locs hW => ?_)
  refine lv_if_eq (tgt := 33) S.1 S.2.1 dX11_move_10 (by decide) (fun hc => ?_) (fun hc => ?_)
  · have hF := it_pos hc hF
    refine lv_iconst (v := (0 : Int32)) S.1 S.2.1 dX11_move_33 (by decide) ?_
    obtain rfl := Option.some.inj hF
    exact rr_i S hr hlk hW rfl rfl dX11_move_34
  · have hF := it_neg hc hF
    refine lv_iload_n S.1 S.2.1 dX11_move_13 rfl (lv_at hl 2 rfl) ?_
    refine lv_iconst (v := (0 : Int32)) S.1 S.2.1 dX11_move_14 (by decide) ?_
    refine lv_bipush (v := (9 : Int32)) S.1 S.2.1 dX11_move_15 (by decide) ?_
    obtain ⟨u2, hu2, hF⟩ := bd_of hF
    refine sc_i (k := 3) (As := [.int a2, .int ((0 : Int32)), .int ((9 : Int32))]) (rest := []) (cR_in l hu2) S (gd_S m_391 m_392 m_5 m_393) rfl rfl (by decide +kernel) ⟨Nat.le_of_ble_eq_true rfl, Nat.le_of_ble_eq_true rfl⟩ rfl hl.1 rfl (Nat.le_of_ble_eq_true rfl) ⟨Nat.le_of_ble_eq_true rfl, Nat.le_of_ble_eq_true rfl⟩ dX11_move_17 ?_
    refine lv_if_eq (tgt := 33) S.1 S.2.1 dX11_move_20 (by decide) (fun hc => ?_) (fun hc => ?_)
    · have hF := it_pos hc hF
      refine lv_iconst (v := (0 : Int32)) S.1 S.2.1 dX11_move_33 (by decide) ?_
      obtain rfl := Option.some.inj hF
      exact rr_i S hr hlk hW rfl rfl dX11_move_34
    · have hF := it_neg hc hF
      refine lv_aload_n S.1 S.2.1 dX11_move_23 rfl (lv_at hl 0 rfl) ?_
      refine rg_state S hW dX11_move_24 ?_
      refine lv_iload_n S.1 S.2.1 dX11_move_27 rfl (lv_at hl 1 rfl) ?_
      obtain ⟨h3, hF⟩ := gd_of hF
      refine rl_state S hW h3 dX11_move_28 ?_
      refine lv_iconst (v := (2 : Int32)) S.1 S.2.1 dX11_move_29 (by decide) ?_
      refine lv_icmp_ne (tgt := 35) S.1 S.2.1 dX11_move_30 (by decide) (fun hc => ?_) (fun hc => ?_)
      · have hF := it_neg hc hF
        refine lv_aload_n S.1 S.2.1 dX11_move_35 rfl (lv_at hl 0 rfl) ?_
        refine rg_house S hW dX11_move_36 ?_
        refine lv_iload_n S.1 S.2.1 dX11_move_39 rfl (lv_at hl 1 rfl) ?_
        refine lv_iload_n S.1 S.2.1 dX11_move_40 rfl (lv_at hl 2 rfl) ?_
        refine rs_house S hW h3 dX11_move_41 (fun H locs hW => ?_)
        refine lv_iconst (v := (1 : Int32)) S.1 S.2.1 dX11_move_42 (by decide) ?_
        obtain rfl := Option.some.inj hF
        exact rr_i S hr hlk hW rfl rfl dX11_move_43
      · have hF := it_pos hc hF
        refine lv_iconst (v := (0 : Int32)) S.1 S.2.1 dX11_move_33 (by decide) ?_
        obtain rfl := Option.some.inj hF
        exact rr_i S hr hlk hW rfl rfl dX11_move_34
def fR_owes (σ : SR) (a1 : Int32) : Option (Int32) :=
  Option.bind (fR_balanceOf σ a1) (fun u1 =>
  Option.bind (fR_ruleOf σ ((4 : Int32)) ((gz σ 20))) (fun u2 =>
  if 0 ≤ (lg_cmp u1 ((-u2)).toInt64) then
  some ((0 : Int32))
  else
  some ((1 : Int32))))
set_option maxRecDepth 100000 in
set_option maxHeartbeats 4000000 in
theorem cR_owes (l : Launch) (D : va_G) (ad : Nat → Nat) (cA : Nat → ClassId) (kk : Nat → Nat) (hd : RD ad) {σ : SR} {a1 : Int32} {o : Int32} (hF : fR_owes σ a1 = some o) : Mi l yX11_owes cX11_owes 2 .boolean { frames := 1, cells := 0, slots := 0, locals := 24 } [.ref (ad 35), .int a1] (RP D ad cA kk σ) o (RP D ad cA kk σ) (RA ad) := by
  refine Mi.of (own := RX11) rfl (by decide +kernel) (Nat.le_of_ble_eq_true rfl) ?_
  intro p e s m args below meth c ls S hr hlk hP hl
  have hW := RW.start hd hP
  have hl : lv_has ls 2 [(0, .ref (ad 35)), (1, .int a1)] := hl
  rw [fR_owes] at hF
  refine lv_aload_n S.1 S.2.1 dX11_owes_0 rfl (lv_at hl 0 rfl) ?_
  refine lv_iload_n S.1 S.2.1 dX11_owes_1 rfl (lv_at hl 1 rfl) ?_
  obtain ⟨u1, hu1, hF⟩ := bd_of hF
  refine rc_l (k := 1) (As := [.int a1]) (rest := []) (cR_balanceOf l D ad cA kk hd hu1) hd (fun _ h => h) S hW (gd_V m_633 m_634 m_635 m_5 m_636) (by decide +kernel) ⟨Nat.le_of_ble_eq_true rfl, Nat.le_of_ble_eq_true rfl⟩ rfl hl.1 rfl (Nat.le_of_ble_eq_true rfl) ⟨Nat.le_of_ble_eq_true rfl, Nat.le_of_ble_eq_true rfl⟩ dX11_owes_2 (fun H locs hW => ?_)
  refine lv_aload_n S.1 S.2.1 dX11_owes_5 rfl (lv_at hl 0 rfl) ?_
  refine lv_iconst (v := (4 : Int32)) S.1 S.2.1 dX11_owes_6 (by decide) ?_
  refine lv_aload_n S.1 S.2.1 dX11_owes_7 rfl (lv_at hl 0 rfl) ?_
  refine rg_month S hW dX11_owes_8 ?_
  obtain ⟨u2, hu2, hF⟩ := bd_of hF
  refine rc_i (k := 2) (As := [.int ((4 : Int32)), .int ((gz σ 20))]) (rest := [.long u1]) (cR_ruleOf l D ad cA kk hd hu2) hd (fun _ h => h) S hW (gd_V m_483 m_484 m_485 m_5 m_486) (by decide +kernel) ⟨Nat.le_of_ble_eq_true rfl, Nat.le_of_ble_eq_true rfl⟩ rfl hl.1 rfl (Nat.le_of_ble_eq_true rfl) ⟨Nat.le_of_ble_eq_true rfl, Nat.le_of_ble_eq_true rfl⟩ dX11_owes_11 (fun H locs hW => ?_)
  refine lv_ineg S.1 S.2.1 dX11_owes_14 ?_
  refine lv_i2l (v := ((-u2)).toInt64) S.1 S.2.1 dX11_owes_15 rfl ?_
  refine W.lcmp S.1 S.2.1 dX11_owes_16 ?_
  refine lv_if_ge (tgt := 24) S.1 S.2.1 dX11_owes_17 (by decide) (fun hc => ?_) (fun hc => ?_)
  · have hF := it_pos hc hF
    refine lv_iconst (v := (0 : Int32)) S.1 S.2.1 dX11_owes_24 (by decide) ?_
    obtain rfl := Option.some.inj hF
    exact rr_i S hr hlk hW rfl rfl dX11_owes_25
  · have hF := it_neg hc hF
    refine lv_iconst (v := (1 : Int32)) S.1 S.2.1 dX11_owes_20 (by decide) ?_
    refine lv_goto (tgt := 25) S.1 S.2.1 dX11_owes_21 (by decide) ?_
    obtain rfl := Option.some.inj hF
    exact rr_i S hr hlk hW rfl rfl dX11_owes_25
def fR_dun_L2 : Nat → Int32 → SR → Option (SR)
  | 0, _, _ => none
  | n + 1, x1, σ =>
    if (gz σ 19) ≤ x1 then
    some ((σ))
    else
    if x1 < 0 ∨ 40 ≤ (x1).toNatClampNeg then none else
    Option.bind (if (gf σ 12 (x1).toNatClampNeg) = (2 : Int32) then
    some (σ)
    else
    Option.bind (fR_owes σ x1) (fun u3 =>
    if u3 = 0 then
    some (pf (pf σ 14 (x1).toNatClampNeg ((0 : Int32))) 12 (x1).toNatClampNeg ((0 : Int32)))
    else
    Option.bind (fR_ruleOf (pf σ 14 (x1).toNatClampNeg (((gf σ 14 (x1).toNatClampNeg) + (1 : Int32)))) ((6 : Int32)) ((gz (pf σ 14 (x1).toNatClampNeg (((gf σ 14 (x1).toNatClampNeg) + (1 : Int32)))) 20))) (fun u4 =>
    Option.bind (fR_ruleOf (pf σ 14 (x1).toNatClampNeg (((gf σ 14 (x1).toNatClampNeg) + (1 : Int32)))) ((5 : Int32)) ((gz (pf σ 14 (x1).toNatClampNeg (((gf σ 14 (x1).toNatClampNeg) + (1 : Int32)))) 20))) (fun u5 =>
    if u4 ≤ 0 then
    if u5 ≤ 0 then
    some (pf σ 14 (x1).toNatClampNeg (((gf σ 14 (x1).toNatClampNeg) + (1 : Int32))))
    else
    if (gf (pf σ 14 (x1).toNatClampNeg (((gf σ 14 (x1).toNatClampNeg) + (1 : Int32)))) 14 (x1).toNatClampNeg) < u5 then
    some (pf σ 14 (x1).toNatClampNeg (((gf σ 14 (x1).toNatClampNeg) + (1 : Int32))))
    else
    some (pf (pf σ 14 (x1).toNatClampNeg (((gf σ 14 (x1).toNatClampNeg) + (1 : Int32)))) 12 (x1).toNatClampNeg ((1 : Int32)))
    else
    if (gf (pf σ 14 (x1).toNatClampNeg (((gf σ 14 (x1).toNatClampNeg) + (1 : Int32)))) 14 (x1).toNatClampNeg) < u4 then
    if u5 ≤ 0 then
    some (pf σ 14 (x1).toNatClampNeg (((gf σ 14 (x1).toNatClampNeg) + (1 : Int32))))
    else
    if (gf (pf σ 14 (x1).toNatClampNeg (((gf σ 14 (x1).toNatClampNeg) + (1 : Int32)))) 14 (x1).toNatClampNeg) < u5 then
    some (pf σ 14 (x1).toNatClampNeg (((gf σ 14 (x1).toNatClampNeg) + (1 : Int32))))
    else
    some (pf (pf σ 14 (x1).toNatClampNeg (((gf σ 14 (x1).toNatClampNeg) + (1 : Int32)))) 12 (x1).toNatClampNeg ((1 : Int32)))
    else
    some (pf (pf σ 14 (x1).toNatClampNeg (((gf σ 14 (x1).toNatClampNeg) + (1 : Int32)))) 12 (x1).toNatClampNeg ((2 : Int32))))))) (fun u2 =>
    fR_dun_L2 n ((x1 + (1 : Int32))) u2)
def fR_dun (σ : SR) : Option (SR) :=
  Option.bind (fR_dun_L2 1000 ((0 : Int32)) σ) (fun u1 =>
  some u1)
set_option maxRecDepth 100000 in
set_option maxHeartbeats 4000000 in
theorem cR_dun (l : Launch) (D : va_G) (ad : Nat → Nat) (cA : Nat → ClassId) (kk : Nat → Nat) (hd : RD ad) {σ : SR} {o : SR} (hF : fR_dun σ = some o) : Mv l yX11_dun cX11_dun 4 { frames := 2, cells := 0, slots := 0, locals := 45 } [.ref (ad 35)] (RP D ad cA kk σ) (RP D ad cA kk o) (RA ad) := by
  refine Mv.of (own := RX11) rfl (by decide +kernel) (Nat.le_of_ble_eq_true rfl) ?_
  intro p e s m args below meth c ls S hr hlk hP hl _
  have hW := RW.start hd hP
  have hl : lv_has ls 4 [(0, .ref (ad 35))] := hl
  rw [fR_dun] at hF
  refine lv_iconst (v := (0 : Int32)) S.1 S.2.1 dX11_dun_0 (by decide) ?_
  refine lv_istore_n (lv' := [(1, .int ((0 : Int32))), (0, .ref (ad 35))]) S.1 S.2.1 dX11_dun_1 rfl hl (by decide) rfl (fun ls hl => ?_)
  obtain ⟨u1, hX, hF⟩ := bd_of hF
  refine jn1 (fun H locs ls => lv_has ls 4 [] ∧ RW D ad cA kk u1 s (RA ad) H locs) 130 [] (fun H locs ls hJ => ?_) (fun Ju1 => ?_)
  · obtain ⟨hl, hW⟩ := hJ
    obtain rfl := Option.some.inj hF
    exact rr_v S hr hlk hW dX11_dun_130
  · refine lpW (fun (xu1 : Int32 × SR) H locs ls => lv_has ls 4 [(0, .ref (ad 35)), (1, .int xu1.1)] ∧ RW D ad cA kk xu1.2 s (RA ad) H locs) 2 (fun n xu1 => fR_dun_L2 n xu1.1 xu1.2) u1 (fun _ => rfl) (fun n xu1 ihu1 hF H locs ls hJ => ?_) 1000 ((0 : Int32), σ) hX _ _ _ ⟨lv_sub hl [1, 0] rfl, hW⟩
    obtain ⟨hl, hW⟩ := hJ
    have hF : fR_dun_L2 (n + 1) xu1.1 xu1.2 = some u1 := hF
    rw [fR_dun_L2] at hF
    refine lv_iload_n S.1 S.2.1 dX11_dun_2 rfl (lv_at hl 1 rfl) ?_
    refine lv_aload_n S.1 S.2.1 dX11_dun_3 rfl (lv_at hl 0 rfl) ?_
    refine rg_members S hW dX11_dun_4 ?_
    refine lv_icmp_ge (tgt := 130) S.1 S.2.1 dX11_dun_7 (by decide) (fun hc => ?_) (fun hc => ?_)
    · have hF := it_pos hc hF
      obtain rfl := Option.some.inj hF
      exact Ju1 _ _ _ ⟨lv_sub hl [] rfl, hW⟩
    · have hF := it_neg hc hF
      refine lv_aload_n S.1 S.2.1 dX11_dun_10 rfl (lv_at hl 0 rfl) ?_
      refine rg_state S hW dX11_dun_11 ?_
      refine lv_iload_n S.1 S.2.1 dX11_dun_14 rfl (lv_at hl 1 rfl) ?_
      obtain ⟨h3, hF⟩ := gd_of hF
      refine rl_state S hW h3 dX11_dun_15 ?_
      refine lv_iconst (v := (2 : Int32)) S.1 S.2.1 dX11_dun_16 (by decide) ?_
      obtain ⟨u4, hX, hF⟩ := bd_of hF
      refine jn1 (fun H locs ls => lv_has ls 4 [(0, .ref (ad 35)), (1, .int xu1.1)] ∧ RW D ad cA kk u4 s (RA ad) H locs) 124 [] (fun H locs ls hJ => ?_) (fun Ju4 => ?_)
      · obtain ⟨hl, hW⟩ := hJ
        refine lv_iinc (v := (xu1.1 + (1 : Int32))) (lv' := [(1, .int ((xu1.1 + (1 : Int32)))), (0, .ref (ad 35))]) S.1 S.2.1 dX11_dun_124 hl (k := 1) rfl rfl (by decide) rfl (fun ls hl => ?_)
        refine lv_goto (tgt := 2) S.1 S.2.1 dX11_dun_127 (by decide) ?_
        exact ihu1 ((xu1.1 + (1 : Int32)), u4) hF _ _ _ ⟨lv_sub hl [1, 0] rfl, hW⟩
      · have hF := hX
        refine lv_icmp_ne (tgt := 23) S.1 S.2.1 dX11_dun_17 (by decide) (fun hc => ?_) (fun hc => ?_)
        · have hF := it_neg hc hF
          refine lv_aload_n S.1 S.2.1 dX11_dun_23 rfl (lv_at hl 0 rfl) ?_
          refine lv_iload_n S.1 S.2.1 dX11_dun_24 rfl (lv_at hl 1 rfl) ?_
          obtain ⟨u5, hu5, hF⟩ := bd_of hF
          refine rc_i (k := 1) (As := [.int xu1.1]) (rest := []) (cR_owes l D ad cA kk hd hu5) hd (fun _ h => h) S hW (gd_V m_629 m_630 m_631 m_5 m_632) (by decide +kernel) ⟨Nat.le_of_ble_eq_true rfl, Nat.le_of_ble_eq_true rfl⟩ rfl hl.1 rfl (Nat.le_of_ble_eq_true rfl) ⟨Nat.le_of_ble_eq_true rfl, Nat.le_of_ble_eq_true rfl⟩ dX11_dun_25 (fun H locs hW => ?_)
          refine lv_if_ne (tgt := 48) S.1 S.2.1 dX11_dun_28 (by decide) (fun hc => ?_) (fun hc => ?_)
          · have hF := it_neg hc hF
            refine lv_aload_n S.1 S.2.1 dX11_dun_48 rfl (lv_at hl 0 rfl) ?_
            refine rg_owing S hW dX11_dun_49 ?_
            refine lv_iload_n S.1 S.2.1 dX11_dun_52 rfl (lv_at hl 1 rfl) ?_
            refine lv_dup2_11 S.1 S.2.1 dX11_dun_53 rfl rfl ?_
            refine rl_owing S hW h3 dX11_dun_54 ?_
            refine lv_iconst (v := (1 : Int32)) S.1 S.2.1 dX11_dun_55 (by decide) ?_
            refine lv_iadd S.1 S.2.1 dX11_dun_56 ?_
            refine rs_owing S hW h3 dX11_dun_57 (fun H locs hW => ?_)
            refine lv_aload_n S.1 S.2.1 dX11_dun_58 rfl (lv_at hl 0 rfl) ?_
            refine lv_bipush (v := (6 : Int32)) S.1 S.2.1 dX11_dun_59 (by decide) ?_
            refine lv_aload_n S.1 S.2.1 dX11_dun_61 rfl (lv_at hl 0 rfl) ?_
            refine rg_month S hW dX11_dun_62 ?_
            obtain ⟨u6, hu6, hF⟩ := bd_of hF
            refine rc_i (k := 2) (As := [.int ((6 : Int32)), .int ((gz (pf xu1.2 14 (xu1.1).toNatClampNeg (((gf xu1.2 14 (xu1.1).toNatClampNeg) + (1 : Int32)))) 20))]) (rest := []) (cR_ruleOf l D ad cA kk hd hu6) hd (fun _ h => h) S hW (gd_V m_483 m_484 m_485 m_5 m_486) (by decide +kernel) ⟨Nat.le_of_ble_eq_true rfl, Nat.le_of_ble_eq_true rfl⟩ rfl hl.1 rfl (Nat.le_of_ble_eq_true rfl) ⟨Nat.le_of_ble_eq_true rfl, Nat.le_of_ble_eq_true rfl⟩ dX11_dun_65 (fun H locs hW => ?_)
            refine lv_istore_n (lv' := [(2, .int u6), (0, .ref (ad 35)), (1, .int xu1.1)]) S.1 S.2.1 dX11_dun_68 rfl hl (by decide) rfl (fun ls hl => ?_)
            refine lv_aload_n S.1 S.2.1 dX11_dun_69 rfl (lv_at hl 1 rfl) ?_
            refine lv_iconst (v := (5 : Int32)) S.1 S.2.1 dX11_dun_70 (by decide) ?_
            refine lv_aload_n S.1 S.2.1 dX11_dun_71 rfl (lv_at hl 1 rfl) ?_
            refine rg_month S hW dX11_dun_72 ?_
            obtain ⟨u7, hu7, hF⟩ := bd_of hF
            refine rc_i (k := 2) (As := [.int ((5 : Int32)), .int ((gz (pf xu1.2 14 (xu1.1).toNatClampNeg (((gf xu1.2 14 (xu1.1).toNatClampNeg) + (1 : Int32)))) 20))]) (rest := []) (cR_ruleOf l D ad cA kk hd hu7) hd (fun _ h => h) S hW (gd_V m_483 m_484 m_485 m_5 m_486) (by decide +kernel) ⟨Nat.le_of_ble_eq_true rfl, Nat.le_of_ble_eq_true rfl⟩ rfl hl.1 rfl (Nat.le_of_ble_eq_true rfl) ⟨Nat.le_of_ble_eq_true rfl, Nat.le_of_ble_eq_true rfl⟩ dX11_dun_75 (fun H locs hW => ?_)
            refine lv_istore_n (lv' := [(3, .int u7), (2, .int u6), (0, .ref (ad 35)), (1, .int xu1.1)]) S.1 S.2.1 dX11_dun_78 rfl hl (by decide) rfl (fun ls hl => ?_)
            refine lv_iload_n S.1 S.2.1 dX11_dun_79 rfl (lv_at hl 1 rfl) ?_
            refine lv_if_le (tgt := 103) S.1 S.2.1 dX11_dun_80 (by decide) (fun hc => ?_) (fun hc => ?_)
            · have hF := it_pos hc hF
              refine lv_iload_n S.1 S.2.1 dX11_dun_103 rfl (lv_at hl 0 rfl) ?_
              refine lv_if_le (tgt := 124) S.1 S.2.1 dX11_dun_104 (by decide) (fun hc => ?_) (fun hc => ?_)
              · have hF := it_pos hc hF
                obtain rfl := Option.some.inj hF
                exact Ju4 _ _ _ ⟨lv_sub hl [2, 3] rfl, hW⟩
              · have hF := it_neg hc hF
                refine lv_aload_n S.1 S.2.1 dX11_dun_107 rfl (lv_at hl 2 rfl) ?_
                refine rg_owing S hW dX11_dun_108 ?_
                refine lv_iload_n S.1 S.2.1 dX11_dun_111 rfl (lv_at hl 3 rfl) ?_
                refine rl_owing S hW h3 dX11_dun_112 ?_
                refine lv_iload_n S.1 S.2.1 dX11_dun_113 rfl (lv_at hl 0 rfl) ?_
                refine lv_icmp_lt (tgt := 124) S.1 S.2.1 dX11_dun_114 (by decide) (fun hc => ?_) (fun hc => ?_)
                · have hF := it_pos hc hF
                  obtain rfl := Option.some.inj hF
                  exact Ju4 _ _ _ ⟨lv_sub hl [2, 3] rfl, hW⟩
                · have hF := it_neg hc hF
                  refine lv_aload_n S.1 S.2.1 dX11_dun_117 rfl (lv_at hl 2 rfl) ?_
                  refine rg_state S hW dX11_dun_118 ?_
                  refine lv_iload_n S.1 S.2.1 dX11_dun_121 rfl (lv_at hl 3 rfl) ?_
                  refine lv_iconst (v := (1 : Int32)) S.1 S.2.1 dX11_dun_122 (by decide) ?_
                  refine rs_state S hW h3 dX11_dun_123 (fun H locs hW => ?_)
                  obtain rfl := Option.some.inj hF
                  exact Ju4 _ _ _ ⟨lv_sub hl [2, 3] rfl, hW⟩
            · have hF := it_neg hc hF
              refine lv_aload_n S.1 S.2.1 dX11_dun_83 rfl (lv_at hl 2 rfl) ?_
              refine rg_owing S hW dX11_dun_84 ?_
              refine lv_iload_n S.1 S.2.1 dX11_dun_87 rfl (lv_at hl 3 rfl) ?_
              refine rl_owing S hW h3 dX11_dun_88 ?_
              refine lv_iload_n S.1 S.2.1 dX11_dun_89 rfl (lv_at hl 1 rfl) ?_
              refine lv_icmp_lt (tgt := 103) S.1 S.2.1 dX11_dun_90 (by decide) (fun hc => ?_) (fun hc => ?_)
              · have hF := it_pos hc hF
                refine lv_iload_n S.1 S.2.1 dX11_dun_103 rfl (lv_at hl 0 rfl) ?_
                refine lv_if_le (tgt := 124) S.1 S.2.1 dX11_dun_104 (by decide) (fun hc => ?_) (fun hc => ?_)
                · have hF := it_pos hc hF
                  obtain rfl := Option.some.inj hF
                  exact Ju4 _ _ _ ⟨lv_sub hl [2, 3] rfl, hW⟩
                · have hF := it_neg hc hF
                  refine lv_aload_n S.1 S.2.1 dX11_dun_107 rfl (lv_at hl 2 rfl) ?_
                  refine rg_owing S hW dX11_dun_108 ?_
                  refine lv_iload_n S.1 S.2.1 dX11_dun_111 rfl (lv_at hl 3 rfl) ?_
                  refine rl_owing S hW h3 dX11_dun_112 ?_
                  refine lv_iload_n S.1 S.2.1 dX11_dun_113 rfl (lv_at hl 0 rfl) ?_
                  refine lv_icmp_lt (tgt := 124) S.1 S.2.1 dX11_dun_114 (by decide) (fun hc => ?_) (fun hc => ?_)
                  · have hF := it_pos hc hF
                    obtain rfl := Option.some.inj hF
                    exact Ju4 _ _ _ ⟨lv_sub hl [2, 3] rfl, hW⟩
                  · have hF := it_neg hc hF
                    refine lv_aload_n S.1 S.2.1 dX11_dun_117 rfl (lv_at hl 2 rfl) ?_
                    refine rg_state S hW dX11_dun_118 ?_
                    refine lv_iload_n S.1 S.2.1 dX11_dun_121 rfl (lv_at hl 3 rfl) ?_
                    refine lv_iconst (v := (1 : Int32)) S.1 S.2.1 dX11_dun_122 (by decide) ?_
                    refine rs_state S hW h3 dX11_dun_123 (fun H locs hW => ?_)
                    obtain rfl := Option.some.inj hF
                    exact Ju4 _ _ _ ⟨lv_sub hl [2, 3] rfl, hW⟩
              · have hF := it_neg hc hF
                refine lv_aload_n S.1 S.2.1 dX11_dun_93 rfl (lv_at hl 2 rfl) ?_
                refine rg_state S hW dX11_dun_94 ?_
                refine lv_iload_n S.1 S.2.1 dX11_dun_97 rfl (lv_at hl 3 rfl) ?_
                refine lv_iconst (v := (2 : Int32)) S.1 S.2.1 dX11_dun_98 (by decide) ?_
                refine rs_state S hW h3 dX11_dun_99 (fun H locs hW => ?_)
                refine lv_goto (tgt := 124) S.1 S.2.1 dX11_dun_100 (by decide) ?_
                obtain rfl := Option.some.inj hF
                exact Ju4 _ _ _ ⟨lv_sub hl [2, 3] rfl, hW⟩
          · have hF := it_pos hc hF
            refine lv_aload_n S.1 S.2.1 dX11_dun_31 rfl (lv_at hl 0 rfl) ?_
            refine rg_owing S hW dX11_dun_32 ?_
            refine lv_iload_n S.1 S.2.1 dX11_dun_35 rfl (lv_at hl 1 rfl) ?_
            refine lv_iconst (v := (0 : Int32)) S.1 S.2.1 dX11_dun_36 (by decide) ?_
            refine rs_owing S hW h3 dX11_dun_37 (fun H locs hW => ?_)
            refine lv_aload_n S.1 S.2.1 dX11_dun_38 rfl (lv_at hl 0 rfl) ?_
            refine rg_state S hW dX11_dun_39 ?_
            refine lv_iload_n S.1 S.2.1 dX11_dun_42 rfl (lv_at hl 1 rfl) ?_
            refine lv_iconst (v := (0 : Int32)) S.1 S.2.1 dX11_dun_43 (by decide) ?_
            refine rs_state S hW h3 dX11_dun_44 (fun H locs hW => ?_)
            refine lv_goto (tgt := 124) S.1 S.2.1 dX11_dun_45 (by decide) ?_
            obtain rfl := Option.some.inj hF
            exact Ju4 _ _ _ ⟨lv_sub hl [0, 1] rfl, hW⟩
        · have hF := it_pos hc hF
          refine lv_goto (tgt := 124) S.1 S.2.1 dX11_dun_20 (by decide) ?_
          obtain rfl := Option.some.inj hF
          exact Ju4 _ _ _ ⟨lv_sub hl [0, 1] rfl, hW⟩
def fR_ways (σ : SR) (a1 : Int32) (a2 : Int32) (a3 : Int32) : Option (Int64 × SR) :=
  Option.bind (fR_areKinds a1 a2) (fun u1 =>
  if u1 = 0 then
  some ((-1 : Int64), pz σ 31 ((0 : Int32)))
  else
  Option.bind (fR_in a3 ((0 : Int32)) a1) (fun u2 =>
  if u2 = 0 then
  some ((-1 : Int64), pz σ 31 ((0 : Int32)))
  else
  Option.bind (fR_waysOf (pz σ 31 ((0 : Int32))) a1 a2 a3) (fun u3 =>
  some (u3, pz σ 31 ((0 : Int32))))))
set_option maxRecDepth 100000 in
set_option maxHeartbeats 4000000 in
theorem cR_ways (l : Launch) (D : va_G) (ad : Nat → Nat) (cA : Nat → ClassId) (kk : Nat → Nat) (hd : RD ad) {σ : SR} {a1 : Int32} {a2 : Int32} {a3 : Int32} {o : Int64 × SR} (hF : fR_ways σ a1 a2 a3 = some o) : Ml l yX11_ways cX11_ways 4 { frames := 2, cells := 0, slots := 0, locals := 50 } [.ref (ad 35), .int a1, .int a2, .int a3] (RP D ad cA kk σ) o.1 (RP D ad cA kk (o.2)) (RA ad) := by
  refine Ml.of (own := RX11) rfl (by decide +kernel) (Nat.le_of_ble_eq_true rfl) ?_
  intro p e s m args below meth c ls S hr hlk hP hl
  have hW := RW.start hd hP
  have hl : lv_has ls 4 [(0, .ref (ad 35)), (1, .int a1), (2, .int a2), (3, .int a3)] := hl
  rw [fR_ways] at hF
  refine lv_aload_n S.1 S.2.1 dX11_ways_0 rfl (lv_at hl 0 rfl) ?_
  refine lv_iconst (v := (0 : Int32)) S.1 S.2.1 dX11_ways_1 (by decide) ?_
  refine rp_thrown S hW dX11_ways_2 (fun H locs hW => ?_)
  refine lv_iload_n S.1 S.2.1 dX11_ways_5 rfl (lv_at hl 1 rfl) ?_
  refine lv_iload_n S.1 S.2.1 dX11_ways_6 rfl (lv_at hl 2 rfl) ?_
  obtain ⟨u1, hu1, hF⟩ := bd_of hF
  refine sc_i (k := 2) (As := [.int a1, .int a2]) (rest := []) (cR_areKinds l hu1) S (gd_S m_911 m_912 m_5 m_913) rfl rfl (by decide +kernel) ⟨Nat.le_of_ble_eq_true rfl, Nat.le_of_ble_eq_true rfl⟩ rfl hl.1 rfl (Nat.le_of_ble_eq_true rfl) ⟨Nat.le_of_ble_eq_true rfl, Nat.le_of_ble_eq_true rfl⟩ dX11_ways_7 ?_
  refine lv_if_eq (tgt := 32) S.1 S.2.1 dX11_ways_10 (by decide) (fun hc => ?_) (fun hc => ?_)
  · have hF := it_pos hc hF
    refine lv_ldc2 (v := (-1 : Int64)) S.1 S.2.1 S.2.2.2.1 (S.2.2.2.2 _ m_650) dX11_ways_32 ?_
    obtain rfl := Option.some.inj hF
    exact rr_l S hr hlk hW rfl dX11_ways_35
  · have hF := it_neg hc hF
    refine lv_iload_n S.1 S.2.1 dX11_ways_13 rfl (lv_at hl 3 rfl) ?_
    refine lv_iconst (v := (0 : Int32)) S.1 S.2.1 dX11_ways_14 (by decide) ?_
    refine lv_iload_n S.1 S.2.1 dX11_ways_15 rfl (lv_at hl 1 rfl) ?_
    obtain ⟨u2, hu2, hF⟩ := bd_of hF
    refine sc_i (k := 3) (As := [.int a3, .int ((0 : Int32)), .int a1]) (rest := []) (cR_in l hu2) S (gd_S m_391 m_392 m_5 m_393) rfl rfl (by decide +kernel) ⟨Nat.le_of_ble_eq_true rfl, Nat.le_of_ble_eq_true rfl⟩ rfl hl.1 rfl (Nat.le_of_ble_eq_true rfl) ⟨Nat.le_of_ble_eq_true rfl, Nat.le_of_ble_eq_true rfl⟩ dX11_ways_16 ?_
    refine lv_if_eq (tgt := 32) S.1 S.2.1 dX11_ways_19 (by decide) (fun hc => ?_) (fun hc => ?_)
    · have hF := it_pos hc hF
      refine lv_ldc2 (v := (-1 : Int64)) S.1 S.2.1 S.2.2.2.1 (S.2.2.2.2 _ m_650) dX11_ways_32 ?_
      obtain rfl := Option.some.inj hF
      exact rr_l S hr hlk hW rfl dX11_ways_35
    · have hF := it_neg hc hF
      refine lv_aload_n S.1 S.2.1 dX11_ways_22 rfl (lv_at hl 0 rfl) ?_
      refine lv_iload_n S.1 S.2.1 dX11_ways_23 rfl (lv_at hl 1 rfl) ?_
      refine lv_iload_n S.1 S.2.1 dX11_ways_24 rfl (lv_at hl 2 rfl) ?_
      refine lv_iload_n S.1 S.2.1 dX11_ways_25 rfl (lv_at hl 3 rfl) ?_
      obtain ⟨u3, hu3, hF⟩ := bd_of hF
      refine rc_l (k := 3) (As := [.int a1, .int a2, .int a3]) (rest := []) (cR_waysOf l D ad cA kk hd hu3) hd (fun _ h => h) S hW (gd_V m_914 m_915 m_916 m_5 m_917) (by decide +kernel) ⟨Nat.le_of_ble_eq_true rfl, Nat.le_of_ble_eq_true rfl⟩ rfl hl.1 rfl (Nat.le_of_ble_eq_true rfl) ⟨Nat.le_of_ble_eq_true rfl, Nat.le_of_ble_eq_true rfl⟩ dX11_ways_26 (fun H locs hW => ?_)
      refine lv_goto (tgt := 35) S.1 S.2.1 dX11_ways_29 (by decide) ?_
      obtain rfl := Option.some.inj hF
      exact rr_l S hr hlk hW rfl dX11_ways_35
def fR_middleOf_L17 (σ : SR) (l1 : Int32) (l2 : Int32) : Nat → Int32 → Option (Int32)
  | 0, _ => none
  | n + 1, x3 =>
    Option.bind (fR_marked σ l1 ((0 : Int32)) x3) (fun u1 =>
    if ((l2 - (1 : Int32)) / (2 : Int32)) < u1 then
    some ((x3))
    else
    fR_middleOf_L17 σ l1 l2 n ((x3 + (1 : Int32))))
def fR_middleOf (σ : SR) (a1 : Int32) : Option (Int32) :=
  Option.bind (fR_marked σ a1 ((0 : Int32)) ((10 : Int32))) (fun u1 =>
  if u1 = 0 then
  some ((-1 : Int32))
  else
  Option.bind (fR_middleOf_L17 σ a1 u1 1000 ((0 : Int32))) (fun u2 =>
  some u2))
set_option maxRecDepth 100000 in
set_option maxHeartbeats 4000000 in
theorem cR_middleOf (l : Launch) (D : va_G) (ad : Nat → Nat) (cA : Nat → ClassId) (kk : Nat → Nat) (hd : RD ad) {σ : SR} {a1 : Int32} {o : Int32} (hF : fR_middleOf σ a1 = some o) : Mi l yX11_middleOf cX11_middleOf 4 .int { frames := 2, cells := 0, slots := 0, locals := 47 } [.ref (ad 35), .int a1] (RP D ad cA kk σ) o (RP D ad cA kk σ) (RA ad) := by
  refine Mi.of (own := RX11) rfl (by decide +kernel) (Nat.le_of_ble_eq_true rfl) ?_
  intro p e s m args below meth c ls S hr hlk hP hl
  have hW := RW.start hd hP
  have hl : lv_has ls 4 [(0, .ref (ad 35)), (1, .int a1)] := hl
  rw [fR_middleOf] at hF
  refine lv_aload_n S.1 S.2.1 dX11_middleOf_0 rfl (lv_at hl 0 rfl) ?_
  refine lv_iload_n S.1 S.2.1 dX11_middleOf_1 rfl (lv_at hl 1 rfl) ?_
  refine lv_iconst (v := (0 : Int32)) S.1 S.2.1 dX11_middleOf_2 (by decide) ?_
  refine lv_bipush (v := (10 : Int32)) S.1 S.2.1 dX11_middleOf_3 (by decide) ?_
  obtain ⟨u1, hu1, hF⟩ := bd_of hF
  refine rc_i (k := 3) (As := [.int a1, .int ((0 : Int32)), .int ((10 : Int32))]) (rest := []) (cR_marked l D ad cA kk hd hu1) hd (fun _ h => h) S hW (gd_V m_1000 m_1001 m_1002 m_5 m_1003) (by decide +kernel) ⟨Nat.le_of_ble_eq_true rfl, Nat.le_of_ble_eq_true rfl⟩ rfl hl.1 rfl (Nat.le_of_ble_eq_true rfl) ⟨Nat.le_of_ble_eq_true rfl, Nat.le_of_ble_eq_true rfl⟩ dX11_middleOf_5 (fun H locs hW => ?_)
  refine lv_istore_n (lv' := [(2, .int u1), (0, .ref (ad 35)), (1, .int a1)]) S.1 S.2.1 dX11_middleOf_8 rfl hl (by decide) rfl (fun ls hl => ?_)
  refine lv_iload_n S.1 S.2.1 dX11_middleOf_9 rfl (lv_at hl 0 rfl) ?_
  refine lv_if_ne (tgt := 15) S.1 S.2.1 dX11_middleOf_10 (by decide) (fun hc => ?_) (fun hc => ?_)
  · have hF := it_neg hc hF
    refine lv_iconst (v := (0 : Int32)) S.1 S.2.1 dX11_middleOf_15 (by decide) ?_
    refine lv_istore_n (lv' := [(3, .int ((0 : Int32))), (2, .int u1), (0, .ref (ad 35)), (1, .int a1)]) S.1 S.2.1 dX11_middleOf_16 rfl hl (by decide) rfl (fun ls hl => ?_)
    obtain ⟨u2, hX, hF⟩ := bd_of hF
    refine jn1 (fun H locs ls => lv_has ls 4 [(3, .int u2)] ∧ RW D ad cA kk σ s (RA ad) H locs) 38 [] (fun H locs ls hJ => ?_) (fun Ju2 => ?_)
    · obtain ⟨hl, hW⟩ := hJ
      refine lv_iload_n S.1 S.2.1 dX11_middleOf_38 rfl (lv_at hl 0 rfl) ?_
      obtain rfl := Option.some.inj hF
      exact rr_i S hr hlk hW rfl rfl dX11_middleOf_39
    · refine lpW (fun (xu2 : Int32) H locs ls => lv_has ls 4 [(0, .ref (ad 35)), (1, .int a1), (2, .int u1), (3, .int xu2)] ∧ RW D ad cA kk σ s (RA ad) H locs) 17 (fun n xu2 => fR_middleOf_L17 σ a1 u1 n xu2) u2 (fun _ => rfl) (fun n xu2 ihu2 hF H locs ls hJ => ?_) 1000 ((0 : Int32)) hX _ _ _ ⟨lv_sub hl [2, 3, 1, 0] rfl, hW⟩
      obtain ⟨hl, hW⟩ := hJ
      have hF : fR_middleOf_L17 σ a1 u1 (n + 1) xu2 = some u2 := hF
      rw [fR_middleOf_L17] at hF
      refine lv_aload_n S.1 S.2.1 dX11_middleOf_17 rfl (lv_at hl 0 rfl) ?_
      refine lv_iload_n S.1 S.2.1 dX11_middleOf_18 rfl (lv_at hl 1 rfl) ?_
      refine lv_iconst (v := (0 : Int32)) S.1 S.2.1 dX11_middleOf_19 (by decide) ?_
      refine lv_iload_n S.1 S.2.1 dX11_middleOf_20 rfl (lv_at hl 3 rfl) ?_
      obtain ⟨u4, hu4, hF⟩ := bd_of hF
      refine rc_i (k := 3) (As := [.int a1, .int ((0 : Int32)), .int xu2]) (rest := []) (cR_marked l D ad cA kk hd hu4) hd (fun _ h => h) S hW (gd_V m_1000 m_1001 m_1002 m_5 m_1003) (by decide +kernel) ⟨Nat.le_of_ble_eq_true rfl, Nat.le_of_ble_eq_true rfl⟩ rfl hl.1 rfl (Nat.le_of_ble_eq_true rfl) ⟨Nat.le_of_ble_eq_true rfl, Nat.le_of_ble_eq_true rfl⟩ dX11_middleOf_21 (fun H locs hW => ?_)
      refine lv_iload_n S.1 S.2.1 dX11_middleOf_24 rfl (lv_at hl 2 rfl) ?_
      refine lv_iconst (v := (1 : Int32)) S.1 S.2.1 dX11_middleOf_25 (by decide) ?_
      refine lv_isub S.1 S.2.1 dX11_middleOf_26 ?_
      refine lv_iconst (v := (2 : Int32)) S.1 S.2.1 dX11_middleOf_27 (by decide) ?_
      refine lv_idiv S.1 S.2.1 dX11_middleOf_28 (by decide) ?_
      refine lv_icmp_gt (tgt := 38) S.1 S.2.1 dX11_middleOf_29 (by decide) (fun hc => ?_) (fun hc => ?_)
      · have hF := it_pos hc hF
        obtain rfl := Option.some.inj hF
        exact Ju2 _ _ _ ⟨lv_sub hl [3] rfl, hW⟩
      · have hF := it_neg hc hF
        refine lv_iinc (v := (xu2 + (1 : Int32))) (lv' := [(3, .int ((xu2 + (1 : Int32)))), (0, .ref (ad 35)), (1, .int a1), (2, .int u1)]) S.1 S.2.1 dX11_middleOf_32 hl (k := 3) rfl rfl (by decide) rfl (fun ls hl => ?_)
        refine lv_goto (tgt := 17) S.1 S.2.1 dX11_middleOf_35 (by decide) ?_
        exact ihu2 ((xu2 + (1 : Int32))) hF _ _ _ ⟨lv_sub hl [1, 2, 3, 0] rfl, hW⟩
  · have hF := it_pos hc hF
    refine lv_iconst (v := (-1 : Int32)) S.1 S.2.1 dX11_middleOf_13 (by decide) ?_
    obtain rfl := Option.some.inj hF
    exact rr_i S hr hlk hW rfl rfl dX11_middleOf_14
def fR_winner_L11 (σ : SR) : Nat → Int32 → Int32 → Int32 → Option (Int32)
  | 0, _, _, _ => none
  | n + 1, x1, x2, x3 =>
    if (20 : Int32) ≤ x3 then
    some ((x1))
    else
    Option.bind (fR_middleOf σ x3) (fun u1 =>
    Option.bind (if u1 = (-1 : Int32) then
    some (x1, x2)
    else
    Option.bind (fR_marked σ x3 ((u1 + (1 : Int32))) ((10 : Int32))) (fun u3 =>
    Option.bind (fR_marked σ x3 ((0 : Int32)) ((u1 - (1 : Int32)))) (fun u4 =>
    if x1 = (-1 : Int32) then
    some (x3, (u3 - u4))
    else
    Option.bind (fR_middleOf σ x1) (fun u5 =>
    if u1 < u5 then
    some (x1, x2)
    else
    Option.bind (fR_middleOf σ x1) (fun u6 =>
    if u1 = u6 then
    if x2 < (u3 - u4) then
    some (x3, (u3 - u4))
    else
    some (x1, x2)
    else
    some (x3, (u3 - u4))))))) (fun u2 =>
    fR_winner_L11 σ n u2.1 u2.2 ((x3 + (1 : Int32)))))
def fR_winner (σ : SR) : Option (Int32 × SR) :=
  Option.bind (fR_winner_L11 (pz σ 31 ((0 : Int32))) 1000 ((-1 : Int32)) ((0 : Int32)) ((0 : Int32))) (fun u1 =>
  some (u1, pz σ 31 ((0 : Int32))))
set_option maxRecDepth 100000 in
set_option maxHeartbeats 4000000 in
theorem cR_winner (l : Launch) (D : va_G) (ad : Nat → Nat) (cA : Nat → ClassId) (kk : Nat → Nat) (hd : RD ad) {σ : SR} {o : Int32 × SR} (hF : fR_winner σ = some o) : Mi l yX11_winner cX11_winner 6 .int { frames := 3, cells := 0, slots := 0, locals := 70 } [.ref (ad 35)] (RP D ad cA kk σ) o.1 (RP D ad cA kk (o.2)) (RA ad) := by
  refine Mi.of (own := RX11) rfl (by decide +kernel) (Nat.le_of_ble_eq_true rfl) ?_
  intro p e s m args below meth c ls S hr hlk hP hl
  have hW := RW.start hd hP
  have hl : lv_has ls 6 [(0, .ref (ad 35))] := hl
  rw [fR_winner] at hF
  refine lv_aload_n S.1 S.2.1 dX11_winner_0 rfl (lv_at hl 0 rfl) ?_
  refine lv_iconst (v := (0 : Int32)) S.1 S.2.1 dX11_winner_1 (by decide) ?_
  refine rp_thrown S hW dX11_winner_2 (fun H locs hW => ?_)
  refine lv_iconst (v := (-1 : Int32)) S.1 S.2.1 dX11_winner_5 (by decide) ?_
  refine lv_istore_n (lv' := [(1, .int ((-1 : Int32))), (0, .ref (ad 35))]) S.1 S.2.1 dX11_winner_6 rfl hl (by decide) rfl (fun ls hl => ?_)
  refine lv_iconst (v := (0 : Int32)) S.1 S.2.1 dX11_winner_7 (by decide) ?_
  refine lv_istore_n (lv' := [(2, .int ((0 : Int32))), (1, .int ((-1 : Int32))), (0, .ref (ad 35))]) S.1 S.2.1 dX11_winner_8 rfl hl (by decide) rfl (fun ls hl => ?_)
  refine lv_iconst (v := (0 : Int32)) S.1 S.2.1 dX11_winner_9 (by decide) ?_
  refine lv_istore_n (lv' := [(3, .int ((0 : Int32))), (2, .int ((0 : Int32))), (1, .int ((-1 : Int32))), (0, .ref (ad 35))]) S.1 S.2.1 dX11_winner_10 rfl hl (by decide) rfl (fun ls hl => ?_)
  obtain ⟨u1, hX, hF⟩ := bd_of hF
  refine jn1 (fun H locs ls => lv_has ls 6 [(1, .int u1)] ∧ RW D ad cA kk (pz σ 31 ((0 : Int32))) s (RA ad) H locs) 102 [] (fun H locs ls hJ => ?_) (fun Ju1 => ?_)
  · obtain ⟨hl, hW⟩ := hJ
    refine lv_iload_n S.1 S.2.1 dX11_winner_102 rfl (lv_at hl 0 rfl) ?_
    obtain rfl := Option.some.inj hF
    exact rr_i S hr hlk hW rfl rfl dX11_winner_103
  · refine lpW (fun (xu1 : Int32 × Int32 × Int32) H locs ls => lv_has ls 6 [(0, .ref (ad 35)), (1, .int xu1.1), (2, .int xu1.2.1), (3, .int xu1.2.2)] ∧ RW D ad cA kk (pz σ 31 ((0 : Int32))) s (RA ad) H locs) 11 (fun n xu1 => fR_winner_L11 (pz σ 31 ((0 : Int32))) n xu1.1 xu1.2.1 xu1.2.2) u1 (fun _ => rfl) (fun n xu1 ihu1 hF H locs ls hJ => ?_) 1000 ((-1 : Int32), (0 : Int32), (0 : Int32)) hX _ _ _ ⟨lv_sub hl [3, 2, 1, 0] rfl, hW⟩
    obtain ⟨hl, hW⟩ := hJ
    have hF : fR_winner_L11 (pz σ 31 ((0 : Int32))) (n + 1) xu1.1 xu1.2.1 xu1.2.2 = some u1 := hF
    rw [fR_winner_L11] at hF
    refine lv_iload_n S.1 S.2.1 dX11_winner_11 rfl (lv_at hl 3 rfl) ?_
    refine lv_bipush (v := (20 : Int32)) S.1 S.2.1 dX11_winner_12 (by decide) ?_
    refine lv_icmp_ge (tgt := 102) S.1 S.2.1 dX11_winner_14 (by decide) (fun hc => ?_) (fun hc => ?_)
    · have hF := it_pos hc hF
      obtain rfl := Option.some.inj hF
      exact Ju1 _ _ _ ⟨lv_sub hl [1] rfl, hW⟩
    · have hF := it_neg hc hF
      refine lv_aload_n S.1 S.2.1 dX11_winner_17 rfl (lv_at hl 0 rfl) ?_
      refine lv_iload_n S.1 S.2.1 dX11_winner_18 rfl (lv_at hl 3 rfl) ?_
      obtain ⟨u3, hu3, hF⟩ := bd_of hF
      refine rc_i (k := 1) (As := [.int xu1.2.2]) (rest := []) (cR_middleOf l D ad cA kk hd hu3) hd (fun _ h => h) S hW (gd_V m_996 m_997 m_998 m_5 m_999) (by decide +kernel) ⟨Nat.le_of_ble_eq_true rfl, Nat.le_of_ble_eq_true rfl⟩ rfl hl.1 rfl (Nat.le_of_ble_eq_true rfl) ⟨Nat.le_of_ble_eq_true rfl, Nat.le_of_ble_eq_true rfl⟩ dX11_winner_19 (fun H locs hW => ?_)
      refine lv_istore (lv' := [(4, .int u3), (0, .ref (ad 35)), (1, .int xu1.1), (2, .int xu1.2.1), (3, .int xu1.2.2)]) S.1 S.2.1 dX11_winner_22 hl (by decide) rfl (fun ls hl => ?_)
      refine lv_iload S.1 S.2.1 dX11_winner_24 (lv_at hl 0 rfl) ?_
      refine lv_iconst (v := (-1 : Int32)) S.1 S.2.1 dX11_winner_26 (by decide) ?_
      obtain ⟨u4, hX, hF⟩ := bd_of hF
      refine jn1 (fun H locs ls => lv_has ls 6 [(0, .ref (ad 35)), (1, .int u4.1), (2, .int u4.2), (3, .int xu1.2.2)] ∧ RW D ad cA kk (pz σ 31 ((0 : Int32))) s (RA ad) H locs) 96 [] (fun H locs ls hJ => ?_) (fun Ju4 => ?_)
      · obtain ⟨hl, hW⟩ := hJ
        refine lv_iinc (v := (xu1.2.2 + (1 : Int32))) (lv' := [(3, .int ((xu1.2.2 + (1 : Int32)))), (0, .ref (ad 35)), (1, .int u4.1), (2, .int u4.2)]) S.1 S.2.1 dX11_winner_96 hl (k := 3) rfl rfl (by decide) rfl (fun ls hl => ?_)
        refine lv_goto (tgt := 11) S.1 S.2.1 dX11_winner_99 (by decide) ?_
        exact ihu1 (u4.1, u4.2, (xu1.2.2 + (1 : Int32))) hF _ _ _ ⟨lv_sub hl [1, 2, 3, 0] rfl, hW⟩
      · have hF := hX
        refine lv_icmp_ne (tgt := 33) S.1 S.2.1 dX11_winner_27 (by decide) (fun hc => ?_) (fun hc => ?_)
        · have hF := it_neg hc hF
          refine lv_aload_n S.1 S.2.1 dX11_winner_33 rfl (lv_at hl 1 rfl) ?_
          refine lv_iload_n S.1 S.2.1 dX11_winner_34 rfl (lv_at hl 4 rfl) ?_
          refine lv_iload S.1 S.2.1 dX11_winner_35 (lv_at hl 0 rfl) ?_
          refine lv_iconst (v := (1 : Int32)) S.1 S.2.1 dX11_winner_37 (by decide) ?_
          refine lv_iadd S.1 S.2.1 dX11_winner_38 ?_
          refine lv_bipush (v := (10 : Int32)) S.1 S.2.1 dX11_winner_39 (by decide) ?_
          obtain ⟨u5, hu5, hF⟩ := bd_of hF
          refine rc_i (k := 3) (As := [.int xu1.2.2, .int ((u3 + (1 : Int32))), .int ((10 : Int32))]) (rest := []) (cR_marked l D ad cA kk hd hu5) hd (fun _ h => h) S hW (gd_V m_1000 m_1001 m_1002 m_5 m_1003) (by decide +kernel) ⟨Nat.le_of_ble_eq_true rfl, Nat.le_of_ble_eq_true rfl⟩ rfl hl.1 rfl (Nat.le_of_ble_eq_true rfl) ⟨Nat.le_of_ble_eq_true rfl, Nat.le_of_ble_eq_true rfl⟩ dX11_winner_41 (fun H locs hW => ?_)
          refine lv_aload_n S.1 S.2.1 dX11_winner_44 rfl (lv_at hl 1 rfl) ?_
          refine lv_iload_n S.1 S.2.1 dX11_winner_45 rfl (lv_at hl 4 rfl) ?_
          refine lv_iconst (v := (0 : Int32)) S.1 S.2.1 dX11_winner_46 (by decide) ?_
          refine lv_iload S.1 S.2.1 dX11_winner_47 (lv_at hl 0 rfl) ?_
          refine lv_iconst (v := (1 : Int32)) S.1 S.2.1 dX11_winner_49 (by decide) ?_
          refine lv_isub S.1 S.2.1 dX11_winner_50 ?_
          obtain ⟨u6, hu6, hF⟩ := bd_of hF
          refine rc_i (k := 3) (As := [.int xu1.2.2, .int ((0 : Int32)), .int ((u3 - (1 : Int32)))]) (rest := [.int u5]) (cR_marked l D ad cA kk hd hu6) hd (fun _ h => h) S hW (gd_V m_1000 m_1001 m_1002 m_5 m_1003) (by decide +kernel) ⟨Nat.le_of_ble_eq_true rfl, Nat.le_of_ble_eq_true rfl⟩ rfl hl.1 rfl (Nat.le_of_ble_eq_true rfl) ⟨Nat.le_of_ble_eq_true rfl, Nat.le_of_ble_eq_true rfl⟩ dX11_winner_51 (fun H locs hW => ?_)
          refine lv_isub S.1 S.2.1 dX11_winner_54 ?_
          refine lv_istore (lv' := [(5, .int ((u5 - u6))), (4, .int u3), (0, .ref (ad 35)), (1, .int xu1.1), (2, .int xu1.2.1), (3, .int xu1.2.2)]) S.1 S.2.1 dX11_winner_55 hl (by decide) rfl (fun ls hl => ?_)
          refine lv_iload_n S.1 S.2.1 dX11_winner_57 rfl (lv_at hl 3 rfl) ?_
          refine lv_iconst (v := (-1 : Int32)) S.1 S.2.1 dX11_winner_58 (by decide) ?_
          refine lv_icmp_eq (tgt := 91) S.1 S.2.1 dX11_winner_59 (by decide) (fun hc => ?_) (fun hc => ?_)
          · have hF := it_pos hc hF
            refine lv_iload_n S.1 S.2.1 dX11_winner_91 rfl (lv_at hl 5 rfl) ?_
            refine lv_istore_n (lv' := [(1, .int xu1.2.2), (5, .int ((u5 - u6))), (4, .int u3), (0, .ref (ad 35)), (2, .int xu1.2.1), (3, .int xu1.2.2)]) S.1 S.2.1 dX11_winner_92 rfl hl (by decide) rfl (fun ls hl => ?_)
            refine lv_iload S.1 S.2.1 dX11_winner_93 (lv_at hl 1 rfl) ?_
            refine lv_istore_n (lv' := [(2, .int ((u5 - u6))), (1, .int xu1.2.2), (5, .int ((u5 - u6))), (4, .int u3), (0, .ref (ad 35)), (3, .int xu1.2.2)]) S.1 S.2.1 dX11_winner_95 rfl hl (by decide) rfl (fun ls hl => ?_)
            obtain rfl := Option.some.inj hF
            exact Ju4 _ _ _ ⟨lv_sub hl [4, 1, 0, 5] rfl, hW⟩
          · have hF := it_neg hc hF
            refine lv_iload S.1 S.2.1 dX11_winner_62 (lv_at hl 1 rfl) ?_
            refine lv_aload_n S.1 S.2.1 dX11_winner_64 rfl (lv_at hl 2 rfl) ?_
            refine lv_iload_n S.1 S.2.1 dX11_winner_65 rfl (lv_at hl 3 rfl) ?_
            obtain ⟨u7, hu7, hF⟩ := bd_of hF
            refine rc_i (k := 1) (As := [.int xu1.1]) (rest := [.int u3]) (cR_middleOf l D ad cA kk hd hu7) hd (fun _ h => h) S hW (gd_V m_996 m_997 m_998 m_5 m_999) (by decide +kernel) ⟨Nat.le_of_ble_eq_true rfl, Nat.le_of_ble_eq_true rfl⟩ rfl hl.1 rfl (Nat.le_of_ble_eq_true rfl) ⟨Nat.le_of_ble_eq_true rfl, Nat.le_of_ble_eq_true rfl⟩ dX11_winner_66 (fun H locs hW => ?_)
            refine lv_icmp_lt (tgt := 96) S.1 S.2.1 dX11_winner_69 (by decide) (fun hc => ?_) (fun hc => ?_)
            · have hF := it_pos hc hF
              obtain rfl := Option.some.inj hF
              exact Ju4 _ _ _ ⟨lv_sub hl [2, 3, 4, 5] rfl, hW⟩
            · have hF := it_neg hc hF
              refine lv_iload S.1 S.2.1 dX11_winner_72 (lv_at hl 1 rfl) ?_
              refine lv_aload_n S.1 S.2.1 dX11_winner_74 rfl (lv_at hl 2 rfl) ?_
              refine lv_iload_n S.1 S.2.1 dX11_winner_75 rfl (lv_at hl 3 rfl) ?_
              obtain ⟨u8, hu8, hF⟩ := bd_of hF
              refine rc_i (k := 1) (As := [.int xu1.1]) (rest := [.int u3]) (cR_middleOf l D ad cA kk hd hu8) hd (fun _ h => h) S hW (gd_V m_996 m_997 m_998 m_5 m_999) (by decide +kernel) ⟨Nat.le_of_ble_eq_true rfl, Nat.le_of_ble_eq_true rfl⟩ rfl hl.1 rfl (Nat.le_of_ble_eq_true rfl) ⟨Nat.le_of_ble_eq_true rfl, Nat.le_of_ble_eq_true rfl⟩ dX11_winner_76 (fun H locs hW => ?_)
              refine lv_icmp_ne (tgt := 91) S.1 S.2.1 dX11_winner_79 (by decide) (fun hc => ?_) (fun hc => ?_)
              · have hF := it_neg hc hF
                refine lv_iload_n S.1 S.2.1 dX11_winner_91 rfl (lv_at hl 5 rfl) ?_
                refine lv_istore_n (lv' := [(1, .int xu1.2.2), (5, .int ((u5 - u6))), (4, .int u3), (0, .ref (ad 35)), (2, .int xu1.2.1), (3, .int xu1.2.2)]) S.1 S.2.1 dX11_winner_92 rfl hl (by decide) rfl (fun ls hl => ?_)
                refine lv_iload S.1 S.2.1 dX11_winner_93 (lv_at hl 1 rfl) ?_
                refine lv_istore_n (lv' := [(2, .int ((u5 - u6))), (1, .int xu1.2.2), (5, .int ((u5 - u6))), (4, .int u3), (0, .ref (ad 35)), (3, .int xu1.2.2)]) S.1 S.2.1 dX11_winner_95 rfl hl (by decide) rfl (fun ls hl => ?_)
                obtain rfl := Option.some.inj hF
                exact Ju4 _ _ _ ⟨lv_sub hl [4, 1, 0, 5] rfl, hW⟩
              · have hF := it_pos hc hF
                refine lv_iload S.1 S.2.1 dX11_winner_82 (lv_at hl 0 rfl) ?_
                refine lv_iload_n S.1 S.2.1 dX11_winner_84 rfl (lv_at hl 4 rfl) ?_
                refine lv_icmp_gt (tgt := 91) S.1 S.2.1 dX11_winner_85 (by decide) (fun hc => ?_) (fun hc => ?_)
                · have hF := it_pos hc hF
                  refine lv_iload_n S.1 S.2.1 dX11_winner_91 rfl (lv_at hl 5 rfl) ?_
                  refine lv_istore_n (lv' := [(1, .int xu1.2.2), (5, .int ((u5 - u6))), (4, .int u3), (0, .ref (ad 35)), (2, .int xu1.2.1), (3, .int xu1.2.2)]) S.1 S.2.1 dX11_winner_92 rfl hl (by decide) rfl (fun ls hl => ?_)
                  refine lv_iload S.1 S.2.1 dX11_winner_93 (lv_at hl 1 rfl) ?_
                  refine lv_istore_n (lv' := [(2, .int ((u5 - u6))), (1, .int xu1.2.2), (5, .int ((u5 - u6))), (4, .int u3), (0, .ref (ad 35)), (3, .int xu1.2.2)]) S.1 S.2.1 dX11_winner_95 rfl hl (by decide) rfl (fun ls hl => ?_)
                  obtain rfl := Option.some.inj hF
                  exact Ju4 _ _ _ ⟨lv_sub hl [4, 1, 0, 5] rfl, hW⟩
                · have hF := it_neg hc hF
                  refine lv_goto (tgt := 96) S.1 S.2.1 dX11_winner_88 (by decide) ?_
                  obtain rfl := Option.some.inj hF
                  exact Ju4 _ _ _ ⟨lv_sub hl [2, 3, 4, 5] rfl, hW⟩
        · have hF := it_pos hc hF
          refine lv_goto (tgt := 96) S.1 S.2.1 dX11_winner_30 (by decide) ?_
          obtain rfl := Option.some.inj hF
          exact Ju4 _ _ _ ⟨lv_sub hl [1, 2, 3, 4] rfl, hW⟩
def fR_readStatement_L9 (l1 : Int32) (l2 : Int32) : Nat → SR → Option (SR)
  | 0, _ => none
  | n + 1, σ =>
    Option.bind (fR_here σ) (fun u1 =>
    Option.bind (fR_in u1 ((97 : Int32)) ((122 : Int32))) (fun u2 =>
    if u2 = 0 then
    some ((σ))
    else
    fR_readStatement_L9 l1 l2 n (pz σ 32 (((gz σ 32) + (1 : Int32))))))
def fR_readStatement (σ : SR) (a1 : Int32) : Option (Int32 × SR) :=
  Option.bind (fR_blanks σ) (fun u1 =>
  Option.bind (fR_readStatement_L9 a1 ((gz u1 32)) 1000 u1) (fun u2 =>
  Option.bind (fR_nameAt u2 ((gz u1 32)) ((gz u2 32))) (fun u6 =>
  if u6 = (-1 : Int32) then
  Option.bind (fR_fails u2 ((1 : Int32)) ((gz u1 32))) (fun u19 =>
  if u19.1 = 0 ∨ u19.1 = 1 then some (u19.1, u19.2) else none)
  else
  if a1 = (60 : Int32) then
  Option.bind (fR_fails u2 ((3 : Int32)) ((gz u1 32))) (fun u18 =>
  if u18.1 = 0 ∨ u18.1 = 1 then some (u18.1, u18.2) else none)
  else
  Option.bind (fR_blanks u2) (fun u7 =>
  Option.bind (fR_here u7) (fun u8 =>
  if u8 = (61 : Int32) then
  Option.bind (fR_blanks (pz u7 32 (((gz u7 32) + (1 : Int32))))) (fun u9 =>
  Option.bind (fR_readNumber u9 ((10000 : Int32))) (fun u10 =>
  if u10.1 = 0 then
  some ((0 : Int32), u10.2)
  else
  if a1 < 0 ∨ 60 ≤ (a1).toNatClampNeg then none else
  Option.bind (fR_blanks (pf (pf (pf u10.2 4 (a1).toNatClampNeg u6) 5 (a1).toNatClampNeg ((gz (pf u10.2 4 (a1).toNatClampNeg u6) 34))) 6 (a1).toNatClampNeg ((0 : Int32)))) (fun u12 =>
  Option.bind (fR_here u12) (fun u13 =>
  if u13 = (64 : Int32) then
  Option.bind (fR_blanks (pz u12 32 (((gz u12 32) + (1 : Int32))))) (fun u14 =>
  Option.bind (fR_readNumber u14 ((60 : Int32))) (fun u15 =>
  if u15.1 = 0 then
  some ((0 : Int32), u15.2)
  else
  Option.bind (fR_blanks (pf u15.2 6 (a1).toNatClampNeg ((gz u15.2 34)))) (fun u16 =>
  some ((1 : Int32), u16))))
  else
  some ((1 : Int32), u12)))))
  else
  Option.bind (fR_fails u7 ((1 : Int32)) ((gz u7 32))) (fun u17 =>
  if u17.1 = 0 ∨ u17.1 = 1 then some (u17.1, u17.2) else none))))))
set_option maxRecDepth 100000 in
set_option maxHeartbeats 4000000 in
theorem cR_readStatement (l : Launch) (D : va_G) (ad : Nat → Nat) (cA : Nat → ClassId) (kk : Nat → Nat) (hd : RD ad) {σ : SR} {a1 : Int32} {o : Int32 × SR} (hF : fR_readStatement σ a1 = some o) : Mi l yX11_readStatement cX11_readStatement 4 .boolean { frames := 5, cells := 0, slots := 0, locals := 112 } [.ref (ad 35), .int a1] (RP D ad cA kk σ) o.1 (RP D ad cA kk (o.2)) (RA ad) := by
  refine Mi.of (own := RX11) rfl (by decide +kernel) (Nat.le_of_ble_eq_true rfl) ?_
  intro p e s m args below meth c ls S hr hlk hP hl
  have hW := RW.start hd hP
  have hl : lv_has ls 4 [(0, .ref (ad 35)), (1, .int a1)] := hl
  rw [fR_readStatement] at hF
  refine lv_aload_n S.1 S.2.1 dX11_readStatement_0 rfl (lv_at hl 0 rfl) ?_
  obtain ⟨u1, hu1, hF⟩ := bd_of hF
  refine rc_v (k := 0) (As := []) (rest := []) (cR_blanks l D ad cA kk hd hu1) hd (fun _ h => h) S hW (gd_V m_383 m_384 m_385 m_5 m_386) (by decide +kernel) ⟨Nat.le_of_ble_eq_true rfl, Nat.le_of_ble_eq_true rfl⟩ rfl hl.1 rfl (Nat.le_of_ble_eq_true rfl) ⟨Nat.le_of_ble_eq_true rfl, Nat.le_of_ble_eq_true rfl⟩ dX11_readStatement_1 (fun H locs hW => ?_)
  refine lv_aload_n S.1 S.2.1 dX11_readStatement_4 rfl (lv_at hl 0 rfl) ?_
  refine rg_at S hW dX11_readStatement_5 ?_
  refine lv_istore_n (lv' := [(2, .int ((gz u1 32))), (0, .ref (ad 35)), (1, .int a1)]) S.1 S.2.1 dX11_readStatement_8 rfl hl (by decide) rfl (fun ls hl => ?_)
  obtain ⟨u2, hX, hF⟩ := bd_of hF
  refine jn1 (fun H locs ls => lv_has ls 4 [(0, .ref (ad 35)), (1, .int a1), (2, .int ((gz u1 32)))] ∧ RW D ad cA kk u2 s (RA ad) H locs) 36 [] (fun H locs ls hJ => ?_) (fun Ju2 => ?_)
  · obtain ⟨hl, hW⟩ := hJ
    refine lv_aload_n S.1 S.2.1 dX11_readStatement_36 rfl (lv_at hl 0 rfl) ?_
    refine lv_iload_n S.1 S.2.1 dX11_readStatement_37 rfl (lv_at hl 2 rfl) ?_
    refine lv_aload_n S.1 S.2.1 dX11_readStatement_38 rfl (lv_at hl 0 rfl) ?_
    refine rg_at S hW dX11_readStatement_39 ?_
    obtain ⟨u6, hu6, hF⟩ := bd_of hF
    refine rc_i (k := 2) (As := [.int ((gz u1 32)), .int ((gz u2 32))]) (rest := []) (cR_nameAt l D ad cA kk hd hu6) hd (fun _ h => h) S hW (gd_V m_394 m_395 m_396 m_5 m_397) (by decide +kernel) ⟨Nat.le_of_ble_eq_true rfl, Nat.le_of_ble_eq_true rfl⟩ rfl hl.1 rfl (Nat.le_of_ble_eq_true rfl) ⟨Nat.le_of_ble_eq_true rfl, Nat.le_of_ble_eq_true rfl⟩ dX11_readStatement_42 (fun H locs hW => ?_)
    refine lv_istore_n (lv' := [(3, .int u6), (0, .ref (ad 35)), (1, .int a1), (2, .int ((gz u1 32)))]) S.1 S.2.1 dX11_readStatement_45 rfl hl (by decide) rfl (fun ls hl => ?_)
    refine lv_iload_n S.1 S.2.1 dX11_readStatement_46 rfl (lv_at hl 0 rfl) ?_
    refine lv_iconst (v := (-1 : Int32)) S.1 S.2.1 dX11_readStatement_47 (by decide) ?_
    refine lv_icmp_ne (tgt := 58) S.1 S.2.1 dX11_readStatement_48 (by decide) (fun hc => ?_) (fun hc => ?_)
    · have hF := it_neg hc hF
      refine lv_iload_n S.1 S.2.1 dX11_readStatement_58 rfl (lv_at hl 2 rfl) ?_
      refine lv_bipush (v := (60 : Int32)) S.1 S.2.1 dX11_readStatement_59 (by decide) ?_
      refine lv_icmp_ne (tgt := 71) S.1 S.2.1 dX11_readStatement_61 (by decide) (fun hc => ?_) (fun hc => ?_)
      · have hF := it_neg hc hF
        refine lv_aload_n S.1 S.2.1 dX11_readStatement_71 rfl (lv_at hl 1 rfl) ?_
        obtain ⟨u7, hu7, hF⟩ := bd_of hF
        refine rc_v (k := 0) (As := []) (rest := []) (cR_blanks l D ad cA kk hd hu7) hd (fun _ h => h) S hW (gd_V m_383 m_384 m_385 m_5 m_386) (by decide +kernel) ⟨Nat.le_of_ble_eq_true rfl, Nat.le_of_ble_eq_true rfl⟩ rfl hl.1 rfl (Nat.le_of_ble_eq_true rfl) ⟨Nat.le_of_ble_eq_true rfl, Nat.le_of_ble_eq_true rfl⟩ dX11_readStatement_72 (fun H locs hW => ?_)
        refine lv_aload_n S.1 S.2.1 dX11_readStatement_75 rfl (lv_at hl 1 rfl) ?_
        obtain ⟨u8, hu8, hF⟩ := bd_of hF
        refine rc_i (k := 0) (As := []) (rest := []) (cR_here l D ad cA kk hd hu8) hd (fun _ h => h) S hW (gd_V m_387 m_388 m_389 m_5 m_390) (by decide +kernel) ⟨Nat.le_of_ble_eq_true rfl, Nat.le_of_ble_eq_true rfl⟩ rfl hl.1 rfl (Nat.le_of_ble_eq_true rfl) ⟨Nat.le_of_ble_eq_true rfl, Nat.le_of_ble_eq_true rfl⟩ dX11_readStatement_76 (fun H locs hW => ?_)
        refine lv_bipush (v := (61 : Int32)) S.1 S.2.1 dX11_readStatement_79 (by decide) ?_
        refine lv_icmp_eq (tgt := 94) S.1 S.2.1 dX11_readStatement_81 (by decide) (fun hc => ?_) (fun hc => ?_)
        · have hF := it_pos hc hF
          refine lv_aload_n S.1 S.2.1 dX11_readStatement_94 rfl (lv_at hl 1 rfl) ?_
          refine lv_dup S.1 S.2.1 dX11_readStatement_95 rfl ?_
          refine rg_at S hW dX11_readStatement_96 ?_
          refine lv_iconst (v := (1 : Int32)) S.1 S.2.1 dX11_readStatement_99 (by decide) ?_
          refine lv_iadd S.1 S.2.1 dX11_readStatement_100 ?_
          refine rp_at S hW dX11_readStatement_101 (fun H locs hW => ?_)
          refine lv_aload_n S.1 S.2.1 dX11_readStatement_104 rfl (lv_at hl 1 rfl) ?_
          obtain ⟨u9, hu9, hF⟩ := bd_of hF
          refine rc_v (k := 0) (As := []) (rest := []) (cR_blanks l D ad cA kk hd hu9) hd (fun _ h => h) S hW (gd_V m_383 m_384 m_385 m_5 m_386) (by decide +kernel) ⟨Nat.le_of_ble_eq_true rfl, Nat.le_of_ble_eq_true rfl⟩ rfl hl.1 rfl (Nat.le_of_ble_eq_true rfl) ⟨Nat.le_of_ble_eq_true rfl, Nat.le_of_ble_eq_true rfl⟩ dX11_readStatement_105 (fun H locs hW => ?_)
          refine lv_aload_n S.1 S.2.1 dX11_readStatement_108 rfl (lv_at hl 1 rfl) ?_
          refine lv_sipush (v := (10000 : Int32)) S.1 S.2.1 dX11_readStatement_109 (by decide) ?_
          obtain ⟨u10, hu10, hF⟩ := bd_of hF
          refine rc_i (k := 1) (As := [.int ((10000 : Int32))]) (rest := []) (cR_readNumber l D ad cA kk hd hu10) hd (fun _ h => h) S hW (gd_V m_456 m_457 m_458 m_5 m_459) (by decide +kernel) ⟨Nat.le_of_ble_eq_true rfl, Nat.le_of_ble_eq_true rfl⟩ rfl hl.1 rfl (Nat.le_of_ble_eq_true rfl) ⟨Nat.le_of_ble_eq_true rfl, Nat.le_of_ble_eq_true rfl⟩ dX11_readStatement_112 (fun H locs hW => ?_)
          refine lv_if_ne (tgt := 120) S.1 S.2.1 dX11_readStatement_115 (by decide) (fun hc => ?_) (fun hc => ?_)
          · have hF := it_neg hc hF
            refine lv_aload_n S.1 S.2.1 dX11_readStatement_120 rfl (lv_at hl 1 rfl) ?_
            refine rg_ruleName S hW dX11_readStatement_121 ?_
            refine lv_iload_n S.1 S.2.1 dX11_readStatement_124 rfl (lv_at hl 2 rfl) ?_
            refine lv_iload_n S.1 S.2.1 dX11_readStatement_125 rfl (lv_at hl 0 rfl) ?_
            obtain ⟨h11, hF⟩ := gd_of hF
            refine rs_ruleName S hW h11 dX11_readStatement_126 (fun H locs hW => ?_)
            refine lv_aload_n S.1 S.2.1 dX11_readStatement_127 rfl (lv_at hl 1 rfl) ?_
            refine rg_ruleValue S hW dX11_readStatement_128 ?_
            refine lv_iload_n S.1 S.2.1 dX11_readStatement_131 rfl (lv_at hl 2 rfl) ?_
            refine lv_aload_n S.1 S.2.1 dX11_readStatement_132 rfl (lv_at hl 1 rfl) ?_
            refine rg_number S hW dX11_readStatement_133 ?_
            refine rs_ruleValue S hW h11 dX11_readStatement_136 (fun H locs hW => ?_)
            refine lv_aload_n S.1 S.2.1 dX11_readStatement_137 rfl (lv_at hl 1 rfl) ?_
            refine rg_ruleFrom S hW dX11_readStatement_138 ?_
            refine lv_iload_n S.1 S.2.1 dX11_readStatement_141 rfl (lv_at hl 2 rfl) ?_
            refine lv_iconst (v := (0 : Int32)) S.1 S.2.1 dX11_readStatement_142 (by decide) ?_
            refine rs_ruleFrom S hW h11 dX11_readStatement_143 (fun H locs hW => ?_)
            refine lv_aload_n S.1 S.2.1 dX11_readStatement_144 rfl (lv_at hl 1 rfl) ?_
            obtain ⟨u12, hu12, hF⟩ := bd_of hF
            refine rc_v (k := 0) (As := []) (rest := []) (cR_blanks l D ad cA kk hd hu12) hd (fun _ h => h) S hW (gd_V m_383 m_384 m_385 m_5 m_386) (by decide +kernel) ⟨Nat.le_of_ble_eq_true rfl, Nat.le_of_ble_eq_true rfl⟩ rfl hl.1 rfl (Nat.le_of_ble_eq_true rfl) ⟨Nat.le_of_ble_eq_true rfl, Nat.le_of_ble_eq_true rfl⟩ dX11_readStatement_145 (fun H locs hW => ?_)
            refine lv_aload_n S.1 S.2.1 dX11_readStatement_148 rfl (lv_at hl 1 rfl) ?_
            obtain ⟨u13, hu13, hF⟩ := bd_of hF
            refine rc_i (k := 0) (As := []) (rest := []) (cR_here l D ad cA kk hd hu13) hd (fun _ h => h) S hW (gd_V m_387 m_388 m_389 m_5 m_390) (by decide +kernel) ⟨Nat.le_of_ble_eq_true rfl, Nat.le_of_ble_eq_true rfl⟩ rfl hl.1 rfl (Nat.le_of_ble_eq_true rfl) ⟨Nat.le_of_ble_eq_true rfl, Nat.le_of_ble_eq_true rfl⟩ dX11_readStatement_149 (fun H locs hW => ?_)
            refine lv_bipush (v := (64 : Int32)) S.1 S.2.1 dX11_readStatement_152 (by decide) ?_
            refine lv_icmp_eq (tgt := 159) S.1 S.2.1 dX11_readStatement_154 (by decide) (fun hc => ?_) (fun hc => ?_)
            · have hF := it_pos hc hF
              refine lv_aload_n S.1 S.2.1 dX11_readStatement_159 rfl (lv_at hl 1 rfl) ?_
              refine lv_dup S.1 S.2.1 dX11_readStatement_160 rfl ?_
              refine rg_at S hW dX11_readStatement_161 ?_
              refine lv_iconst (v := (1 : Int32)) S.1 S.2.1 dX11_readStatement_164 (by decide) ?_
              refine lv_iadd S.1 S.2.1 dX11_readStatement_165 ?_
              refine rp_at S hW dX11_readStatement_166 (fun H locs hW => ?_)
              refine lv_aload_n S.1 S.2.1 dX11_readStatement_169 rfl (lv_at hl 1 rfl) ?_
              obtain ⟨u14, hu14, hF⟩ := bd_of hF
              refine rc_v (k := 0) (As := []) (rest := []) (cR_blanks l D ad cA kk hd hu14) hd (fun _ h => h) S hW (gd_V m_383 m_384 m_385 m_5 m_386) (by decide +kernel) ⟨Nat.le_of_ble_eq_true rfl, Nat.le_of_ble_eq_true rfl⟩ rfl hl.1 rfl (Nat.le_of_ble_eq_true rfl) ⟨Nat.le_of_ble_eq_true rfl, Nat.le_of_ble_eq_true rfl⟩ dX11_readStatement_170 (fun H locs hW => ?_)
              refine lv_aload_n S.1 S.2.1 dX11_readStatement_173 rfl (lv_at hl 1 rfl) ?_
              refine lv_bipush (v := (60 : Int32)) S.1 S.2.1 dX11_readStatement_174 (by decide) ?_
              obtain ⟨u15, hu15, hF⟩ := bd_of hF
              refine rc_i (k := 1) (As := [.int ((60 : Int32))]) (rest := []) (cR_readNumber l D ad cA kk hd hu15) hd (fun _ h => h) S hW (gd_V m_456 m_457 m_458 m_5 m_459) (by decide +kernel) ⟨Nat.le_of_ble_eq_true rfl, Nat.le_of_ble_eq_true rfl⟩ rfl hl.1 rfl (Nat.le_of_ble_eq_true rfl) ⟨Nat.le_of_ble_eq_true rfl, Nat.le_of_ble_eq_true rfl⟩ dX11_readStatement_176 (fun H locs hW => ?_)
              refine lv_if_ne (tgt := 184) S.1 S.2.1 dX11_readStatement_179 (by decide) (fun hc => ?_) (fun hc => ?_)
              · have hF := it_neg hc hF
                refine lv_aload_n S.1 S.2.1 dX11_readStatement_184 rfl (lv_at hl 1 rfl) ?_
                refine rg_ruleFrom S hW dX11_readStatement_185 ?_
                refine lv_iload_n S.1 S.2.1 dX11_readStatement_188 rfl (lv_at hl 2 rfl) ?_
                refine lv_aload_n S.1 S.2.1 dX11_readStatement_189 rfl (lv_at hl 1 rfl) ?_
                refine rg_number S hW dX11_readStatement_190 ?_
                refine rs_ruleFrom S hW h11 dX11_readStatement_193 (fun H locs hW => ?_)
                refine lv_aload_n S.1 S.2.1 dX11_readStatement_194 rfl (lv_at hl 1 rfl) ?_
                obtain ⟨u16, hu16, hF⟩ := bd_of hF
                refine rc_v (k := 0) (As := []) (rest := []) (cR_blanks l D ad cA kk hd hu16) hd (fun _ h => h) S hW (gd_V m_383 m_384 m_385 m_5 m_386) (by decide +kernel) ⟨Nat.le_of_ble_eq_true rfl, Nat.le_of_ble_eq_true rfl⟩ rfl hl.1 rfl (Nat.le_of_ble_eq_true rfl) ⟨Nat.le_of_ble_eq_true rfl, Nat.le_of_ble_eq_true rfl⟩ dX11_readStatement_195 (fun H locs hW => ?_)
                refine lv_iconst (v := (1 : Int32)) S.1 S.2.1 dX11_readStatement_198 (by decide) ?_
                obtain rfl := Option.some.inj hF
                exact rr_i S hr hlk hW rfl rfl dX11_readStatement_199
              · have hF := it_pos hc hF
                refine lv_iconst (v := (0 : Int32)) S.1 S.2.1 dX11_readStatement_182 (by decide) ?_
                obtain rfl := Option.some.inj hF
                exact rr_i S hr hlk hW rfl rfl dX11_readStatement_183
            · have hF := it_neg hc hF
              refine lv_iconst (v := (1 : Int32)) S.1 S.2.1 dX11_readStatement_157 (by decide) ?_
              obtain rfl := Option.some.inj hF
              exact rr_i S hr hlk hW rfl rfl dX11_readStatement_158
          · have hF := it_pos hc hF
            refine lv_iconst (v := (0 : Int32)) S.1 S.2.1 dX11_readStatement_118 (by decide) ?_
            obtain rfl := Option.some.inj hF
            exact rr_i S hr hlk hW rfl rfl dX11_readStatement_119
        · have hF := it_neg hc hF
          refine lv_aload_n S.1 S.2.1 dX11_readStatement_84 rfl (lv_at hl 1 rfl) ?_
          refine lv_iconst (v := (1 : Int32)) S.1 S.2.1 dX11_readStatement_85 (by decide) ?_
          refine lv_aload_n S.1 S.2.1 dX11_readStatement_86 rfl (lv_at hl 1 rfl) ?_
          refine rg_at S hW dX11_readStatement_87 ?_
          obtain ⟨u17, hu17, hF⟩ := bd_of hF
          refine rc_i (k := 2) (As := [.int ((1 : Int32)), .int ((gz u7 32))]) (rest := []) (cR_fails l D ad cA kk hd hu17) hd (fun _ h => h) S hW (gd_V m_452 m_453 m_454 m_5 m_455) (by decide +kernel) ⟨Nat.le_of_ble_eq_true rfl, Nat.le_of_ble_eq_true rfl⟩ rfl hl.1 rfl (Nat.le_of_ble_eq_true rfl) ⟨Nat.le_of_ble_eq_true rfl, Nat.le_of_ble_eq_true rfl⟩ dX11_readStatement_90 (fun H locs hW => ?_)
          obtain ⟨hb, hF⟩ := gt_of hF
          obtain rfl := Option.some.inj hF
          exact rr_i S hr hlk hW (bool_nar hb) rfl dX11_readStatement_93
      · have hF := it_pos hc hF
        refine lv_aload_n S.1 S.2.1 dX11_readStatement_64 rfl (lv_at hl 1 rfl) ?_
        refine lv_iconst (v := (3 : Int32)) S.1 S.2.1 dX11_readStatement_65 (by decide) ?_
        refine lv_iload_n S.1 S.2.1 dX11_readStatement_66 rfl (lv_at hl 3 rfl) ?_
        obtain ⟨u18, hu18, hF⟩ := bd_of hF
        refine rc_i (k := 2) (As := [.int ((3 : Int32)), .int ((gz u1 32))]) (rest := []) (cR_fails l D ad cA kk hd hu18) hd (fun _ h => h) S hW (gd_V m_452 m_453 m_454 m_5 m_455) (by decide +kernel) ⟨Nat.le_of_ble_eq_true rfl, Nat.le_of_ble_eq_true rfl⟩ rfl hl.1 rfl (Nat.le_of_ble_eq_true rfl) ⟨Nat.le_of_ble_eq_true rfl, Nat.le_of_ble_eq_true rfl⟩ dX11_readStatement_67 (fun H locs hW => ?_)
        obtain ⟨hb, hF⟩ := gt_of hF
        obtain rfl := Option.some.inj hF
        exact rr_i S hr hlk hW (bool_nar hb) rfl dX11_readStatement_70
    · have hF := it_pos hc hF
      refine lv_aload_n S.1 S.2.1 dX11_readStatement_51 rfl (lv_at hl 1 rfl) ?_
      refine lv_iconst (v := (1 : Int32)) S.1 S.2.1 dX11_readStatement_52 (by decide) ?_
      refine lv_iload_n S.1 S.2.1 dX11_readStatement_53 rfl (lv_at hl 3 rfl) ?_
      obtain ⟨u19, hu19, hF⟩ := bd_of hF
      refine rc_i (k := 2) (As := [.int ((1 : Int32)), .int ((gz u1 32))]) (rest := []) (cR_fails l D ad cA kk hd hu19) hd (fun _ h => h) S hW (gd_V m_452 m_453 m_454 m_5 m_455) (by decide +kernel) ⟨Nat.le_of_ble_eq_true rfl, Nat.le_of_ble_eq_true rfl⟩ rfl hl.1 rfl (Nat.le_of_ble_eq_true rfl) ⟨Nat.le_of_ble_eq_true rfl, Nat.le_of_ble_eq_true rfl⟩ dX11_readStatement_54 (fun H locs hW => ?_)
      obtain ⟨hb, hF⟩ := gt_of hF
      obtain rfl := Option.some.inj hF
      exact rr_i S hr hlk hW (bool_nar hb) rfl dX11_readStatement_57
  · refine lpW (fun (xu2 : SR) H locs ls => lv_has ls 4 [(0, .ref (ad 35)), (1, .int a1), (2, .int ((gz u1 32)))] ∧ RW D ad cA kk xu2 s (RA ad) H locs) 9 (fun n xu2 => fR_readStatement_L9 a1 ((gz u1 32)) n xu2) u2 (fun _ => rfl) (fun n xu2 ihu2 hF H locs ls hJ => ?_) 1000 (u1) hX _ _ _ ⟨lv_sub hl [1, 2, 0] rfl, hW⟩
    obtain ⟨hl, hW⟩ := hJ
    have hF : fR_readStatement_L9 a1 ((gz u1 32)) (n + 1) xu2 = some u2 := hF
    rw [fR_readStatement_L9] at hF
    refine lv_aload_n S.1 S.2.1 dX11_readStatement_9 rfl (lv_at hl 0 rfl) ?_
    obtain ⟨u4, hu4, hF⟩ := bd_of hF
    refine rc_i (k := 0) (As := []) (rest := []) (cR_here l D ad cA kk hd hu4) hd (fun _ h => h) S hW (gd_V m_387 m_388 m_389 m_5 m_390) (by decide +kernel) ⟨Nat.le_of_ble_eq_true rfl, Nat.le_of_ble_eq_true rfl⟩ rfl hl.1 rfl (Nat.le_of_ble_eq_true rfl) ⟨Nat.le_of_ble_eq_true rfl, Nat.le_of_ble_eq_true rfl⟩ dX11_readStatement_10 (fun H locs hW => ?_)
    refine lv_bipush (v := (97 : Int32)) S.1 S.2.1 dX11_readStatement_13 (by decide) ?_
    refine lv_bipush (v := (122 : Int32)) S.1 S.2.1 dX11_readStatement_15 (by decide) ?_
    obtain ⟨u5, hu5, hF⟩ := bd_of hF
    refine sc_i (k := 3) (As := [.int u4, .int ((97 : Int32)), .int ((122 : Int32))]) (rest := []) (cR_in l hu5) S (gd_S m_391 m_392 m_5 m_393) rfl rfl (by decide +kernel) ⟨Nat.le_of_ble_eq_true rfl, Nat.le_of_ble_eq_true rfl⟩ rfl hl.1 rfl (Nat.le_of_ble_eq_true rfl) ⟨Nat.le_of_ble_eq_true rfl, Nat.le_of_ble_eq_true rfl⟩ dX11_readStatement_17 ?_
    refine lv_if_eq (tgt := 36) S.1 S.2.1 dX11_readStatement_20 (by decide) (fun hc => ?_) (fun hc => ?_)
    · have hF := it_pos hc hF
      obtain rfl := Option.some.inj hF
      exact Ju2 _ _ _ ⟨lv_sub hl [0, 1, 2] rfl, hW⟩
    · have hF := it_neg hc hF
      refine lv_aload_n S.1 S.2.1 dX11_readStatement_23 rfl (lv_at hl 0 rfl) ?_
      refine lv_dup S.1 S.2.1 dX11_readStatement_24 rfl ?_
      refine rg_at S hW dX11_readStatement_25 ?_
      refine lv_iconst (v := (1 : Int32)) S.1 S.2.1 dX11_readStatement_28 (by decide) ?_
      refine lv_iadd S.1 S.2.1 dX11_readStatement_29 ?_
      refine rp_at S hW dX11_readStatement_30 (fun H locs hW => ?_)
      refine lv_goto (tgt := 9) S.1 S.2.1 dX11_readStatement_33 (by decide) ?_
      exact ihu2 (pz xu2 32 (((gz xu2 32) + (1 : Int32)))) hF _ _ _ ⟨lv_sub hl [0, 1, 2] rfl, hW⟩
def fR_pay (σ : SR) (a1 : Int32) (a2 : Int32) : Option (Int64 × SR) :=
  Option.bind (fR_isMember (pz σ 31 ((0 : Int32))) a1) (fun u1 =>
  if u1 = 0 then
  some ((-1000000000 : Int64), pz σ 31 ((0 : Int32)))
  else
  Option.bind (fR_in a2 ((1 : Int32)) ((100000 : Int32))) (fun u2 =>
  if u2 = 0 then
  some ((-1000000000 : Int64), pz σ 31 ((0 : Int32)))
  else
  if (gz (pz σ 31 ((0 : Int32))) 27) = (900 : Int32) then
  some ((-1000000000 : Int64), pz σ 31 ((0 : Int32)))
  else
  Option.bind (fR_enter (pz σ 31 ((0 : Int32))) a1 ((1 : Int32)) ((a2).toInt64)) (fun u3 =>
  Option.bind (fR_owes u3 a1) (fun u4 =>
  Option.bind (if u4 = 0 then
  if a1 < 0 ∨ 40 ≤ (a1).toNatClampNeg then none else
  if (gf (pf u3 14 (a1).toNatClampNeg ((0 : Int32))) 12 (a1).toNatClampNeg) = (1 : Int32) then
  some (pf (pf u3 14 (a1).toNatClampNeg ((0 : Int32))) 12 (a1).toNatClampNeg ((0 : Int32)))
  else
  some (pf u3 14 (a1).toNatClampNeg ((0 : Int32)))
  else
  some (u3)) (fun u5 =>
  Option.bind (fR_balanceOf u5 a1) (fun u7 =>
  some (u7, u5)))))))
set_option maxRecDepth 100000 in
set_option maxHeartbeats 4000000 in
theorem cR_pay (l : Launch) (D : va_G) (ad : Nat → Nat) (cA : Nat → ClassId) (kk : Nat → Nat) (hd : RD ad) {σ : SR} {a1 : Int32} {a2 : Int32} {o : Int64 × SR} (hF : fR_pay σ a1 a2 = some o) : Ml l yX11_pay cX11_pay 3 { frames := 2, cells := 0, slots := 0, locals := 45 } [.ref (ad 35), .int a1, .int a2] (RP D ad cA kk σ) o.1 (RP D ad cA kk (o.2)) (RA ad) := by
  refine Ml.of (own := RX11) rfl (by decide +kernel) (Nat.le_of_ble_eq_true rfl) ?_
  intro p e s m args below meth c ls S hr hlk hP hl
  have hW := RW.start hd hP
  have hl : lv_has ls 3 [(0, .ref (ad 35)), (1, .int a1), (2, .int a2)] := hl
  rw [fR_pay] at hF
  refine lv_aload_n S.1 S.2.1 dX11_pay_0 rfl (lv_at hl 0 rfl) ?_
  refine lv_iconst (v := (0 : Int32)) S.1 S.2.1 dX11_pay_1 (by decide) ?_
  refine rp_thrown S hW dX11_pay_2 (fun H locs hW => ?_)
  refine lv_aload_n S.1 S.2.1 dX11_pay_5 rfl (lv_at hl 0 rfl) ?_
  refine lv_iload_n S.1 S.2.1 dX11_pay_6 rfl (lv_at hl 1 rfl) ?_
  obtain ⟨u1, hu1, hF⟩ := bd_of hF
  refine rc_i (k := 1) (As := [.int a1]) (rest := []) (cR_isMember l D ad cA kk hd hu1) hd (fun _ h => h) S hW (gd_V m_600 m_601 m_602 m_5 m_603) (by decide +kernel) ⟨Nat.le_of_ble_eq_true rfl, Nat.le_of_ble_eq_true rfl⟩ rfl hl.1 rfl (Nat.le_of_ble_eq_true rfl) ⟨Nat.le_of_ble_eq_true rfl, Nat.le_of_ble_eq_true rfl⟩ dX11_pay_7 (fun H locs hW => ?_)
  refine lv_if_eq (tgt := 33) S.1 S.2.1 dX11_pay_10 (by decide) (fun hc => ?_) (fun hc => ?_)
  · have hF := it_pos hc hF
    refine lv_ldc2 (v := (-1000000000 : Int64)) S.1 S.2.1 S.2.2.2.1 (S.2.2.2.2 _ m_628) dX11_pay_33 ?_
    obtain rfl := Option.some.inj hF
    exact rr_l S hr hlk hW rfl dX11_pay_36
  · have hF := it_neg hc hF
    refine lv_iload_n S.1 S.2.1 dX11_pay_13 rfl (lv_at hl 2 rfl) ?_
    refine lv_iconst (v := (1 : Int32)) S.1 S.2.1 dX11_pay_14 (by decide) ?_
    refine lv_ldc (v := (100000 : Int32)) S.1 S.2.1 S.2.2.2.1 (S.2.2.2.2 _ m_460) dX11_pay_15 ?_
    obtain ⟨u2, hu2, hF⟩ := bd_of hF
    refine sc_i (k := 3) (As := [.int a2, .int ((1 : Int32)), .int ((100000 : Int32))]) (rest := []) (cR_in l hu2) S (gd_S m_391 m_392 m_5 m_393) rfl rfl (by decide +kernel) ⟨Nat.le_of_ble_eq_true rfl, Nat.le_of_ble_eq_true rfl⟩ rfl hl.1 rfl (Nat.le_of_ble_eq_true rfl) ⟨Nat.le_of_ble_eq_true rfl, Nat.le_of_ble_eq_true rfl⟩ dX11_pay_17 ?_
    refine lv_if_eq (tgt := 33) S.1 S.2.1 dX11_pay_20 (by decide) (fun hc => ?_) (fun hc => ?_)
    · have hF := it_pos hc hF
      refine lv_ldc2 (v := (-1000000000 : Int64)) S.1 S.2.1 S.2.2.2.1 (S.2.2.2.2 _ m_628) dX11_pay_33 ?_
      obtain rfl := Option.some.inj hF
      exact rr_l S hr hlk hW rfl dX11_pay_36
    · have hF := it_neg hc hF
      refine lv_aload_n S.1 S.2.1 dX11_pay_23 rfl (lv_at hl 0 rfl) ?_
      refine rg_entries S hW dX11_pay_24 ?_
      refine lv_sipush (v := (900 : Int32)) S.1 S.2.1 dX11_pay_27 (by decide) ?_
      refine lv_icmp_ne (tgt := 37) S.1 S.2.1 dX11_pay_30 (by decide) (fun hc => ?_) (fun hc => ?_)
      · have hF := it_neg hc hF
        refine lv_aload_n S.1 S.2.1 dX11_pay_37 rfl (lv_at hl 0 rfl) ?_
        refine lv_iload_n S.1 S.2.1 dX11_pay_38 rfl (lv_at hl 1 rfl) ?_
        refine lv_iconst (v := (1 : Int32)) S.1 S.2.1 dX11_pay_39 (by decide) ?_
        refine lv_iload_n S.1 S.2.1 dX11_pay_40 rfl (lv_at hl 2 rfl) ?_
        refine lv_i2l (v := (a2).toInt64) S.1 S.2.1 dX11_pay_41 rfl ?_
        obtain ⟨u3, hu3, hF⟩ := bd_of hF
        refine rc_v (k := 3) (As := [.int a1, .int ((1 : Int32)), .long ((a2).toInt64)]) (rest := []) (cR_enter l D ad cA kk hd hu3) hd (fun _ h => h) S hW (gd_V m_566 m_567 m_568 m_5 m_569) (by decide +kernel) ⟨Nat.le_of_ble_eq_true rfl, Nat.le_of_ble_eq_true rfl⟩ rfl hl.1 rfl (Nat.le_of_ble_eq_true rfl) ⟨Nat.le_of_ble_eq_true rfl, Nat.le_of_ble_eq_true rfl⟩ dX11_pay_42 (fun H locs hW => ?_)
        refine lv_aload_n S.1 S.2.1 dX11_pay_45 rfl (lv_at hl 0 rfl) ?_
        refine lv_iload_n S.1 S.2.1 dX11_pay_46 rfl (lv_at hl 1 rfl) ?_
        obtain ⟨u4, hu4, hF⟩ := bd_of hF
        refine rc_i (k := 1) (As := [.int a1]) (rest := []) (cR_owes l D ad cA kk hd hu4) hd (fun _ h => h) S hW (gd_V m_629 m_630 m_631 m_5 m_632) (by decide +kernel) ⟨Nat.le_of_ble_eq_true rfl, Nat.le_of_ble_eq_true rfl⟩ rfl hl.1 rfl (Nat.le_of_ble_eq_true rfl) ⟨Nat.le_of_ble_eq_true rfl, Nat.le_of_ble_eq_true rfl⟩ dX11_pay_47 (fun H locs hW => ?_)
        obtain ⟨u5, hX, hF⟩ := bd_of hF
        refine jn1 (fun H locs ls => lv_has ls 3 [(0, .ref (ad 35)), (1, .int a1)] ∧ RW D ad cA kk u5 s (RA ad) H locs) 77 [] (fun H locs ls hJ => ?_) (fun Ju5 => ?_)
        · obtain ⟨hl, hW⟩ := hJ
          refine lv_aload_n S.1 S.2.1 dX11_pay_77 rfl (lv_at hl 0 rfl) ?_
          refine lv_iload_n S.1 S.2.1 dX11_pay_78 rfl (lv_at hl 1 rfl) ?_
          obtain ⟨u7, hu7, hF⟩ := bd_of hF
          refine rc_l (k := 1) (As := [.int a1]) (rest := []) (cR_balanceOf l D ad cA kk hd hu7) hd (fun _ h => h) S hW (gd_V m_633 m_634 m_635 m_5 m_636) (by decide +kernel) ⟨Nat.le_of_ble_eq_true rfl, Nat.le_of_ble_eq_true rfl⟩ rfl hl.1 rfl (Nat.le_of_ble_eq_true rfl) ⟨Nat.le_of_ble_eq_true rfl, Nat.le_of_ble_eq_true rfl⟩ dX11_pay_79 (fun H locs hW => ?_)
          obtain rfl := Option.some.inj hF
          exact rr_l S hr hlk hW rfl dX11_pay_82
        · have hF := hX
          refine lv_if_ne (tgt := 77) S.1 S.2.1 dX11_pay_50 (by decide) (fun hc => ?_) (fun hc => ?_)
          · have hF := it_neg hc hF
            obtain rfl := Option.some.inj hF
            exact Ju5 _ _ _ ⟨lv_sub hl [0, 1] rfl, hW⟩
          · have hF := it_pos hc hF
            refine lv_aload_n S.1 S.2.1 dX11_pay_53 rfl (lv_at hl 0 rfl) ?_
            refine rg_owing S hW dX11_pay_54 ?_
            refine lv_iload_n S.1 S.2.1 dX11_pay_57 rfl (lv_at hl 1 rfl) ?_
            refine lv_iconst (v := (0 : Int32)) S.1 S.2.1 dX11_pay_58 (by decide) ?_
            obtain ⟨h6, hF⟩ := gd_of hF
            refine rs_owing S hW h6 dX11_pay_59 (fun H locs hW => ?_)
            refine lv_aload_n S.1 S.2.1 dX11_pay_60 rfl (lv_at hl 0 rfl) ?_
            refine rg_state S hW dX11_pay_61 ?_
            refine lv_iload_n S.1 S.2.1 dX11_pay_64 rfl (lv_at hl 1 rfl) ?_
            refine rl_state S hW h6 dX11_pay_65 ?_
            refine lv_iconst (v := (1 : Int32)) S.1 S.2.1 dX11_pay_66 (by decide) ?_
            refine lv_icmp_ne (tgt := 77) S.1 S.2.1 dX11_pay_67 (by decide) (fun hc => ?_) (fun hc => ?_)
            · have hF := it_neg hc hF
              obtain rfl := Option.some.inj hF
              exact Ju5 _ _ _ ⟨lv_sub hl [0, 1] rfl, hW⟩
            · have hF := it_pos hc hF
              refine lv_aload_n S.1 S.2.1 dX11_pay_70 rfl (lv_at hl 0 rfl) ?_
              refine rg_state S hW dX11_pay_71 ?_
              refine lv_iload_n S.1 S.2.1 dX11_pay_74 rfl (lv_at hl 1 rfl) ?_
              refine lv_iconst (v := (0 : Int32)) S.1 S.2.1 dX11_pay_75 (by decide) ?_
              refine rs_state S hW h6 dX11_pay_76 (fun H locs hW => ?_)
              obtain rfl := Option.some.inj hF
              exact Ju5 _ _ _ ⟨lv_sub hl [0, 1] rfl, hW⟩
      · have hF := it_pos hc hF
        refine lv_ldc2 (v := (-1000000000 : Int64)) S.1 S.2.1 S.2.2.2.1 (S.2.2.2.2 _ m_628) dX11_pay_33 ?_
        obtain rfl := Option.some.inj hF
        exact rr_l S hr hlk hW rfl dX11_pay_36
def fR_close_L62 (l1 : Int32) : Nat → Int32 → SR → Option (SR)
  | 0, _, _ => none
  | n + 1, x2, σ =>
    if (gz σ 19) ≤ x2 then
    some ((σ))
    else
    if x2 < 0 ∨ 40 ≤ (x2).toNatClampNeg then none else
    fR_close_L62 l1 n ((x2 + (1 : Int32))) (pf σ 15 (x2).toNatClampNeg ((0 : Int32)))
def fR_close (σ : SR) : Option (Int32 × SR) :=
  if (gz (pz σ 31 ((0 : Int32))) 20) = (60 : Int32) then
  some ((-1 : Int32), pz σ 31 ((0 : Int32)))
  else
  if (200 : Int32) ≤ ((900 : Int32) - (gz (pz σ 31 ((0 : Int32))) 27)) then
  Option.bind (if (gz (pz σ 31 ((0 : Int32))) 20) ≤ 0 then
  some (pz σ 31 ((0 : Int32)))
  else
  Option.bind (fR_takeBack (pz σ 31 ((0 : Int32)))) (fun u2 =>
  some (u2))) (fun u1 =>
  Option.bind (fR_sendAll u1) (fun u3 =>
  Option.bind (fR_dun u3.2) (fun u4 =>
  Option.bind (fR_close_L62 u3.1 1000 ((0 : Int32)) (pz u4 20 (((gz u4 20) + (1 : Int32))))) (fun u5 =>
  some (u3.1, u5)))))
  else
  some ((-1 : Int32), pz σ 31 ((0 : Int32)))
set_option maxRecDepth 100000 in
set_option maxHeartbeats 4000000 in
theorem cR_close (l : Launch) (D : va_G) (ad : Nat → Nat) (cA : Nat → ClassId) (kk : Nat → Nat) (hd : RD ad) {σ : SR} {o : Int32 × SR} (hF : fR_close σ = some o) : Mi l yX11_close cX11_close 3 .int { frames := 3, cells := 0, slots := 0, locals := 68 } [.ref (ad 35)] (RP D ad cA kk σ) o.1 (RP D ad cA kk (o.2)) (RA ad) := by
  refine Mi.of (own := RX11) rfl (by decide +kernel) (Nat.le_of_ble_eq_true rfl) ?_
  intro p e s m args below meth c ls S hr hlk hP hl
  have hW := RW.start hd hP
  have hl : lv_has ls 3 [(0, .ref (ad 35))] := hl
  rw [fR_close] at hF
  refine lv_aload_n S.1 S.2.1 dX11_close_0 rfl (lv_at hl 0 rfl) ?_
  refine lv_iconst (v := (0 : Int32)) S.1 S.2.1 dX11_close_1 (by decide) ?_
  refine rp_thrown S hW dX11_close_2 (fun H locs hW => ?_)
  refine lv_aload_n S.1 S.2.1 dX11_close_5 rfl (lv_at hl 0 rfl) ?_
  refine rg_month S hW dX11_close_6 ?_
  refine lv_bipush (v := (60 : Int32)) S.1 S.2.1 dX11_close_9 (by decide) ?_
  refine lv_icmp_eq (tgt := 28) S.1 S.2.1 dX11_close_11 (by decide) (fun hc => ?_) (fun hc => ?_)
  · have hF := it_pos hc hF
    refine lv_iconst (v := (-1 : Int32)) S.1 S.2.1 dX11_close_28 (by decide) ?_
    obtain rfl := Option.some.inj hF
    exact rr_i S hr hlk hW rfl rfl dX11_close_29
  · have hF := it_neg hc hF
    refine lv_sipush (v := (900 : Int32)) S.1 S.2.1 dX11_close_14 (by decide) ?_
    refine lv_aload_n S.1 S.2.1 dX11_close_17 rfl (lv_at hl 0 rfl) ?_
    refine rg_entries S hW dX11_close_18 ?_
    refine lv_isub S.1 S.2.1 dX11_close_21 ?_
    refine lv_sipush (v := (200 : Int32)) S.1 S.2.1 dX11_close_22 (by decide) ?_
    refine lv_icmp_ge (tgt := 30) S.1 S.2.1 dX11_close_25 (by decide) (fun hc => ?_) (fun hc => ?_)
    · have hF := it_pos hc hF
      refine lv_aload_n S.1 S.2.1 dX11_close_30 rfl (lv_at hl 0 rfl) ?_
      refine rg_month S hW dX11_close_31 ?_
      obtain ⟨u1, hX, hF⟩ := bd_of hF
      refine jn1 (fun H locs ls => lv_has ls 3 [(0, .ref (ad 35))] ∧ RW D ad cA kk u1 s (RA ad) H locs) 41 [] (fun H locs ls hJ => ?_) (fun Ju1 => ?_)
      · obtain ⟨hl, hW⟩ := hJ
        refine lv_aload_n S.1 S.2.1 dX11_close_41 rfl (lv_at hl 0 rfl) ?_
        obtain ⟨u3, hu3, hF⟩ := bd_of hF
        refine rc_i (k := 0) (As := []) (rest := []) (cR_sendAll l D ad cA kk hd hu3) hd (fun _ h => h) S hW (gd_V m_775 m_776 m_777 m_5 m_778) (by decide +kernel) ⟨Nat.le_of_ble_eq_true rfl, Nat.le_of_ble_eq_true rfl⟩ rfl hl.1 rfl (Nat.le_of_ble_eq_true rfl) ⟨Nat.le_of_ble_eq_true rfl, Nat.le_of_ble_eq_true rfl⟩ dX11_close_42 (fun H locs hW => ?_)
        refine lv_istore_n (lv' := [(1, .int u3.1), (0, .ref (ad 35))]) S.1 S.2.1 dX11_close_45 rfl hl (by decide) rfl (fun ls hl => ?_)
        refine lv_aload_n S.1 S.2.1 dX11_close_46 rfl (lv_at hl 1 rfl) ?_
        obtain ⟨u4, hu4, hF⟩ := bd_of hF
        refine rc_v (k := 0) (As := []) (rest := []) (cR_dun l D ad cA kk hd hu4) hd (fun _ h => h) S hW (gd_V m_779 m_780 m_781 m_5 m_782) (by decide +kernel) ⟨Nat.le_of_ble_eq_true rfl, Nat.le_of_ble_eq_true rfl⟩ rfl hl.1 rfl (Nat.le_of_ble_eq_true rfl) ⟨Nat.le_of_ble_eq_true rfl, Nat.le_of_ble_eq_true rfl⟩ dX11_close_47 (fun H locs hW => ?_)
        refine lv_aload_n S.1 S.2.1 dX11_close_50 rfl (lv_at hl 1 rfl) ?_
        refine lv_dup S.1 S.2.1 dX11_close_51 rfl ?_
        refine rg_month S hW dX11_close_52 ?_
        refine lv_iconst (v := (1 : Int32)) S.1 S.2.1 dX11_close_55 (by decide) ?_
        refine lv_iadd S.1 S.2.1 dX11_close_56 ?_
        refine rp_month S hW dX11_close_57 (fun H locs hW => ?_)
        refine lv_iconst (v := (0 : Int32)) S.1 S.2.1 dX11_close_60 (by decide) ?_
        refine lv_istore_n (lv' := [(2, .int ((0 : Int32))), (1, .int u3.1), (0, .ref (ad 35))]) S.1 S.2.1 dX11_close_61 rfl hl (by decide) rfl (fun ls hl => ?_)
        obtain ⟨u5, hX, hF⟩ := bd_of hF
        refine jn1 (fun H locs ls => lv_has ls 3 [(1, .int u3.1)] ∧ RW D ad cA kk u5 s (RA ad) H locs) 83 [] (fun H locs ls hJ => ?_) (fun Ju5 => ?_)
        · obtain ⟨hl, hW⟩ := hJ
          refine lv_iload_n S.1 S.2.1 dX11_close_83 rfl (lv_at hl 0 rfl) ?_
          obtain rfl := Option.some.inj hF
          exact rr_i S hr hlk hW rfl rfl dX11_close_84
        · refine lpW (fun (xu5 : Int32 × SR) H locs ls => lv_has ls 3 [(0, .ref (ad 35)), (1, .int u3.1), (2, .int xu5.1)] ∧ RW D ad cA kk xu5.2 s (RA ad) H locs) 62 (fun n xu5 => fR_close_L62 u3.1 n xu5.1 xu5.2) u5 (fun _ => rfl) (fun n xu5 ihu5 hF H locs ls hJ => ?_) 1000 ((0 : Int32), pz u4 20 (((gz u4 20) + (1 : Int32)))) hX _ _ _ ⟨lv_sub hl [2, 1, 0] rfl, hW⟩
          obtain ⟨hl, hW⟩ := hJ
          have hF : fR_close_L62 u3.1 (n + 1) xu5.1 xu5.2 = some u5 := hF
          rw [fR_close_L62] at hF
          refine lv_iload_n S.1 S.2.1 dX11_close_62 rfl (lv_at hl 2 rfl) ?_
          refine lv_aload_n S.1 S.2.1 dX11_close_63 rfl (lv_at hl 0 rfl) ?_
          refine rg_members S hW dX11_close_64 ?_
          refine lv_icmp_ge (tgt := 83) S.1 S.2.1 dX11_close_67 (by decide) (fun hc => ?_) (fun hc => ?_)
          · have hF := it_pos hc hF
            obtain rfl := Option.some.inj hF
            exact Ju5 _ _ _ ⟨lv_sub hl [1] rfl, hW⟩
          · have hF := it_neg hc hF
            refine lv_aload_n S.1 S.2.1 dX11_close_70 rfl (lv_at hl 0 rfl) ?_
            refine rg_refusal S hW dX11_close_71 ?_
            refine lv_iload_n S.1 S.2.1 dX11_close_74 rfl (lv_at hl 2 rfl) ?_
            refine lv_iconst (v := (0 : Int32)) S.1 S.2.1 dX11_close_75 (by decide) ?_
            obtain ⟨h7, hF⟩ := gd_of hF
            refine rs_refusal S hW h7 dX11_close_76 (fun H locs hW => ?_)
            refine lv_iinc (v := (xu5.1 + (1 : Int32))) (lv' := [(2, .int ((xu5.1 + (1 : Int32)))), (0, .ref (ad 35)), (1, .int u3.1)]) S.1 S.2.1 dX11_close_77 hl (k := 2) rfl rfl (by decide) rfl (fun ls hl => ?_)
            refine lv_goto (tgt := 62) S.1 S.2.1 dX11_close_80 (by decide) ?_
            exact ihu5 ((xu5.1 + (1 : Int32)), pf xu5.2 15 (xu5.1).toNatClampNeg ((0 : Int32))) hF _ _ _ ⟨lv_sub hl [1, 2, 0] rfl, hW⟩
      · have hF := hX
        refine lv_if_le (tgt := 41) S.1 S.2.1 dX11_close_34 (by decide) (fun hc => ?_) (fun hc => ?_)
        · have hF := it_pos hc hF
          obtain rfl := Option.some.inj hF
          exact Ju1 _ _ _ ⟨lv_sub hl [0] rfl, hW⟩
        · have hF := it_neg hc hF
          refine lv_aload_n S.1 S.2.1 dX11_close_37 rfl (lv_at hl 0 rfl) ?_
          obtain ⟨u2, hu2, hF⟩ := bd_of hF
          refine rc_v (k := 0) (As := []) (rest := []) (cR_takeBack l D ad cA kk hd hu2) hd (fun _ h => h) S hW (gd_V m_771 m_772 m_773 m_5 m_774) (by decide +kernel) ⟨Nat.le_of_ble_eq_true rfl, Nat.le_of_ble_eq_true rfl⟩ rfl hl.1 rfl (Nat.le_of_ble_eq_true rfl) ⟨Nat.le_of_ble_eq_true rfl, Nat.le_of_ble_eq_true rfl⟩ dX11_close_38 (fun H locs hW => ?_)
          obtain rfl := Option.some.inj hF
          exact Ju1 _ _ _ ⟨lv_sub hl [0] rfl, hW⟩
    · have hF := it_neg hc hF
      refine lv_iconst (v := (-1 : Int32)) S.1 S.2.1 dX11_close_28 (by decide) ?_
      obtain rfl := Option.some.inj hF
      exact rr_i S hr hlk hW rfl rfl dX11_close_29
def fR_middle (σ : SR) (a1 : Int32) : Option (Int32 × SR) :=
  Option.bind (fR_in a1 ((0 : Int32)) ((19 : Int32))) (fun u1 =>
  if u1 = 0 then
  some ((-1 : Int32), pz σ 31 ((0 : Int32)))
  else
  Option.bind (fR_middleOf (pz σ 31 ((0 : Int32))) a1) (fun u2 =>
  some (u2, pz σ 31 ((0 : Int32)))))
set_option maxRecDepth 100000 in
set_option maxHeartbeats 4000000 in
theorem cR_middle (l : Launch) (D : va_G) (ad : Nat → Nat) (cA : Nat → ClassId) (kk : Nat → Nat) (hd : RD ad) {σ : SR} {a1 : Int32} {o : Int32 × SR} (hF : fR_middle σ a1 = some o) : Mi l yX11_middle cX11_middle 2 .int { frames := 3, cells := 0, slots := 0, locals := 70 } [.ref (ad 35), .int a1] (RP D ad cA kk σ) o.1 (RP D ad cA kk (o.2)) (RA ad) := by
  refine Mi.of (own := RX11) rfl (by decide +kernel) (Nat.le_of_ble_eq_true rfl) ?_
  intro p e s m args below meth c ls S hr hlk hP hl
  have hW := RW.start hd hP
  have hl : lv_has ls 2 [(0, .ref (ad 35)), (1, .int a1)] := hl
  rw [fR_middle] at hF
  refine lv_aload_n S.1 S.2.1 dX11_middle_0 rfl (lv_at hl 0 rfl) ?_
  refine lv_iconst (v := (0 : Int32)) S.1 S.2.1 dX11_middle_1 (by decide) ?_
  refine rp_thrown S hW dX11_middle_2 (fun H locs hW => ?_)
  refine lv_iload_n S.1 S.2.1 dX11_middle_5 rfl (lv_at hl 1 rfl) ?_
  refine lv_iconst (v := (0 : Int32)) S.1 S.2.1 dX11_middle_6 (by decide) ?_
  refine lv_bipush (v := (19 : Int32)) S.1 S.2.1 dX11_middle_7 (by decide) ?_
  obtain ⟨u1, hu1, hF⟩ := bd_of hF
  refine sc_i (k := 3) (As := [.int a1, .int ((0 : Int32)), .int ((19 : Int32))]) (rest := []) (cR_in l hu1) S (gd_S m_391 m_392 m_5 m_393) rfl rfl (by decide +kernel) ⟨Nat.le_of_ble_eq_true rfl, Nat.le_of_ble_eq_true rfl⟩ rfl hl.1 rfl (Nat.le_of_ble_eq_true rfl) ⟨Nat.le_of_ble_eq_true rfl, Nat.le_of_ble_eq_true rfl⟩ dX11_middle_9 ?_
  refine lv_if_eq (tgt := 23) S.1 S.2.1 dX11_middle_12 (by decide) (fun hc => ?_) (fun hc => ?_)
  · have hF := it_pos hc hF
    refine lv_iconst (v := (-1 : Int32)) S.1 S.2.1 dX11_middle_23 (by decide) ?_
    obtain rfl := Option.some.inj hF
    exact rr_i S hr hlk hW rfl rfl dX11_middle_24
  · have hF := it_neg hc hF
    refine lv_aload_n S.1 S.2.1 dX11_middle_15 rfl (lv_at hl 0 rfl) ?_
    refine lv_iload_n S.1 S.2.1 dX11_middle_16 rfl (lv_at hl 1 rfl) ?_
    obtain ⟨u2, hu2, hF⟩ := bd_of hF
    refine rc_i (k := 1) (As := [.int a1]) (rest := []) (cR_middleOf l D ad cA kk hd hu2) hd (fun _ h => h) S hW (gd_V m_996 m_997 m_998 m_5 m_999) (by decide +kernel) ⟨Nat.le_of_ble_eq_true rfl, Nat.le_of_ble_eq_true rfl⟩ rfl hl.1 rfl (Nat.le_of_ble_eq_true rfl) ⟨Nat.le_of_ble_eq_true rfl, Nat.le_of_ble_eq_true rfl⟩ dX11_middle_17 (fun H locs hW => ?_)
    refine lv_goto (tgt := 24) S.1 S.2.1 dX11_middle_20 (by decide) ?_
    obtain rfl := Option.some.inj hF
    exact rr_i S hr hlk hW rfl rfl dX11_middle_24
