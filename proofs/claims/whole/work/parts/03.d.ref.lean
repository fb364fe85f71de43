def fR_strike (σ : SR) (a1 : Int32) : Option (Int32 × SR) :=
  Option.bind (fR_in a1 ((0 : Int32)) (((gz (pz σ 31 ((0 : Int32))) 27) - (1 : Int32)))) (fun u1 =>
  if u1 = 0 then
  some ((0 : Int32), pz σ 31 ((0 : Int32)))
  else
  if a1 < 0 ∨ 900 ≤ (a1).toNatClampNeg then none else
  if (gf (pz σ 31 ((0 : Int32))) 26 (a1).toNatClampNeg) = (-1 : Int32) then
  some ((1 : Int32), pf (pz σ 31 ((0 : Int32))) 26 (a1).toNatClampNeg ((gz (pz σ 31 ((0 : Int32))) 20)))
  else
  some ((0 : Int32), pz σ 31 ((0 : Int32))))
set_option maxRecDepth 100000 in
set_option maxHeartbeats 4000000 in
theorem cR_strike (l : Launch) (D : va_G) (ad : Nat → Nat) (cA : Nat → ClassId) (kk : Nat → Nat) (hd : RD ad) {σ : SR} {a1 : Int32} {o : Int32 × SR} (hF : fR_strike σ a1 = some o) : Mi l yX11_strike cX11_strike 2 .boolean { frames := 1, cells := 0, slots := 0, locals := 22 } [.ref (ad 35), .int a1] (RP D ad cA kk σ) o.1 (RP D ad cA kk (o.2)) (RA ad) := by
  refine Mi.of (own := RX11) rfl (by decide +kernel) (Nat.le_of_ble_eq_true rfl) ?_
  intro p e s m args below meth c ls S hr hlk hP hl
  have hW := RW.start hd hP
  have hl : lv_has ls 2 [(0, .ref (ad 35)), (1, .int a1)] := hl
  rw [fR_strike] at hF
  refine lv_aload_n S.1 S.2.1 dX11_strike_0 rfl (lv_at hl 0 rfl) ?_
  refine lv_iconst (v := (0 : Int32)) S.1 S.2.1 dX11_strike_1 (by decide) ?_
  refine rp_thrown S hW dX11_strike_2 (fun H locs hW => ?_)
  refine lv_iload_n S.1 S.2.1 dX11_strike_5 rfl (lv_at hl 1 rfl) ?_
  refine lv_iconst (v := (0 : Int32)) S.1 S.2.1 dX11_strike_6 (by decide) ?_
  refine lv_aload_n S.1 S.2.1 dX11_strike_7 rfl (lv_at hl 0 rfl) ?_
  refine rg_entries S hW dX11_strike_8 ?_
  refine lv_iconst (v := (1 : Int32)) S.1 S.2.1 dX11_strike_11 (by decide) ?_
  refine lv_isub S.1 S.2.1 dX11_strike_12 ?_
  obtain ⟨u1, hu1, hF⟩ := bd_of hF
  refine sc_i (k := 3) (As := [.int a1, .int ((0 : Int32)), .int (((gz (pz σ 31 ((0 : Int32))) 27) - (1 : Int32)))]) (rest := []) (cR_in l hu1) S (gd_S m_391 m_392 m_5 m_393) rfl rfl (by decide +kernel) ⟨Nat.le_of_ble_eq_true rfl, Nat.le_of_ble_eq_true rfl⟩ rfl hl.1 rfl (Nat.le_of_ble_eq_true rfl) ⟨Nat.le_of_ble_eq_true rfl, Nat.le_of_ble_eq_true rfl⟩ dX11_strike_13 ?_
  refine lv_if_eq (tgt := 29) S.1 S.2.1 dX11_strike_16 (by decide) (fun hc => ?_) (fun hc => ?_)
  · have hF := it_pos hc hF
    refine lv_iconst (v := (0 : Int32)) S.1 S.2.1 dX11_strike_29 (by decide) ?_
    obtain rfl := Option.some.inj hF
    exact rr_i S hr hlk hW rfl rfl dX11_strike_30
  · have hF := it_neg hc hF
    refine lv_aload_n S.1 S.2.1 dX11_strike_19 rfl (lv_at hl 0 rfl) ?_
    refine rg_struck S hW dX11_strike_20 ?_
    refine lv_iload_n S.1 S.2.1 dX11_strike_23 rfl (lv_at hl 1 rfl) ?_
    obtain ⟨h2, hF⟩ := gd_of hF
    refine rl_struck S hW h2 dX11_strike_24 ?_
    refine lv_iconst (v := (-1 : Int32)) S.1 S.2.1 dX11_strike_25 (by decide) ?_
    refine lv_icmp_eq (tgt := 31) S.1 S.2.1 dX11_strike_26 (by decide) (fun hc => ?_) (fun hc => ?_)
    · have hF := it_pos hc hF
      refine lv_aload_n S.1 S.2.1 dX11_strike_31 rfl (lv_at hl 0 rfl) ?_
      refine rg_struck S hW dX11_strike_32 ?_
      refine lv_iload_n S.1 S.2.1 dX11_strike_35 rfl (lv_at hl 1 rfl) ?_
      refine lv_aload_n S.1 S.2.1 dX11_strike_36 rfl (lv_at hl 0 rfl) ?_
      refine rg_month S hW dX11_strike_37 ?_
      refine rs_struck S hW h2 dX11_strike_40 (fun H locs hW => ?_)
      refine lv_iconst (v := (1 : Int32)) S.1 S.2.1 dX11_strike_41 (by decide) ?_
      obtain rfl := Option.some.inj hF
      exact rr_i S hr hlk hW rfl rfl dX11_strike_42
    · have hF := it_neg hc hF
      refine lv_iconst (v := (0 : Int32)) S.1 S.2.1 dX11_strike_29 (by decide) ?_
      obtain rfl := Option.some.inj hF
      exact rr_i S hr hlk hW rfl rfl dX11_strike_30
def fR_balance_L46 (σ : SR) (l1 : Int32) (l2 : Int32) (l3 : Int32) : Nat → Int64 → Int32 → Option (Int64)
  | 0, _, _ => none
  | n + 1, x4, x6 =>
    if (gz σ 27) ≤ x6 then
    some ((x4))
    else
    if x6 < 0 ∨ 900 ≤ (x6).toNatClampNeg then none else
    Option.bind (if (gf σ 22 (x6).toNatClampNeg) = l1 then
    if l2 < (gf σ 23 (x6).toNatClampNeg) then
    some (x4)
    else
    if (gf σ 26 (x6).toNatClampNeg) = (-1 : Int32) then
    some ((x4 + (gg σ (x6).toNatClampNeg)))
    else
    if (gf σ 26 (x6).toNatClampNeg) ≤ l3 then
    some (x4)
    else
    some ((x4 + (gg σ (x6).toNatClampNeg)))
    else
    some (x4)) (fun u2 =>
    fR_balance_L46 σ l1 l2 l3 n u2 ((x6 + (1 : Int32))))
def fR_balance (σ : SR) (a1 : Int32) (a2 : Int32) (a3 : Int32) : Option (Int64 × SR) :=
  Option.bind (fR_isMember (pz σ 31 ((0 : Int32))) a1) (fun u1 =>
  if u1 = 0 then
  some ((0 : Int64), pz (pz σ 31 ((0 : Int32))) 31 ((1 : Int32)))
  else
  Option.bind (fR_in a2 ((0 : Int32)) ((60 : Int32))) (fun u2 =>
  if u2 = 0 then
  some ((0 : Int64), pz (pz σ 31 ((0 : Int32))) 31 ((1 : Int32)))
  else
  Option.bind (fR_in a3 ((0 : Int32)) ((60 : Int32))) (fun u3 =>
  if u3 = 0 then
  some ((0 : Int64), pz (pz σ 31 ((0 : Int32))) 31 ((1 : Int32)))
  else
  Option.bind (fR_balance_L46 (pz σ 31 ((0 : Int32))) a1 a2 a3 1000 ((0 : Int64)) ((0 : Int32))) (fun u4 =>
  some (u4, pz σ 31 ((0 : Int32)))))))
set_option maxRecDepth 100000 in
set_option maxHeartbeats 4000000 in
theorem cR_balance (l : Launch) (D : va_G) (ad : Nat → Nat) (cA : Nat → ClassId) (kk : Nat → Nat) (hd : RD ad) {σ : SR} {a1 : Int32} {a2 : Int32} {a3 : Int32} {o : Int64 × SR} (hF : fR_balance σ a1 a2 a3 = some o) : Ml l yX11_balance cX11_balance 7 { frames := 2, cells := 0, slots := 0, locals := 43 } [.ref (ad 35), .int a1, .int a2, .int a3] (RP D ad cA kk σ) o.1 (RP D ad cA kk (o.2)) (RA ad) := by
  refine Ml.of (own := RX11) rfl (by decide +kernel) (Nat.le_of_ble_eq_true rfl) ?_
  intro p e s m args below meth c ls S hr hlk hP hl
  have hW := RW.start hd hP
  have hl : lv_has ls 7 [(0, .ref (ad 35)), (1, .int a1), (2, .int a2), (3, .int a3)] := hl
  rw [fR_balance] at hF
  refine lv_aload_n S.1 S.2.1 dX11_balance_0 rfl (lv_at hl 0 rfl) ?_
  refine lv_iconst (v := (0 : Int32)) S.1 S.2.1 dX11_balance_1 (by decide) ?_
  refine rp_thrown S hW dX11_balance_2 (fun H locs hW => ?_)
  refine lv_aload_n S.1 S.2.1 dX11_balance_5 rfl (lv_at hl 0 rfl) ?_
  refine lv_iload_n S.1 S.2.1 dX11_balance_6 rfl (lv_at hl 1 rfl) ?_
  obtain ⟨u1, hu1, hF⟩ := bd_of hF
  refine rc_i (k := 1) (As := [.int a1]) (rest := []) (cR_isMember l D ad cA kk hd hu1) hd (fun _ h => h) S hW (gd_V m_600 m_601 m_602 m_5 m_603) (by decide +kernel) ⟨Nat.le_of_ble_eq_true rfl, Nat.le_of_ble_eq_true rfl⟩ rfl hl.1 rfl (Nat.le_of_ble_eq_true rfl) ⟨Nat.le_of_ble_eq_true rfl, Nat.le_of_ble_eq_true rfl⟩ dX11_balance_7 (fun H locs hW => ?_)
  refine lv_if_eq (tgt := 33) S.1 S.2.1 dX11_balance_10 (by decide) (fun hc => ?_) (fun hc => ?_)
  · have hF := it_pos hc hF
    refine lv_aload_n S.1 S.2.1 dX11_balance_33 rfl (lv_at hl 0 rfl) ?_
    refine lv_iconst (v := (1 : Int32)) S.1 S.2.1 dX11_balance_34 (by decide) ?_
    refine rp_thrown S hW dX11_balance_35 (fun H locs hW => ?_)
    refine lv_lconst (v := (0 : Int64)) S.1 S.2.1 dX11_balance_38 (by decide) ?_
    obtain rfl := Option.some.inj hF
    exact rr_l S hr hlk hW rfl dX11_balance_39
  · have hF := it_neg hc hF
    refine lv_iload_n S.1 S.2.1 dX11_balance_13 rfl (lv_at hl 2 rfl) ?_
    refine lv_iconst (v := (0 : Int32)) S.1 S.2.1 dX11_balance_14 (by decide) ?_
    refine lv_bipush (v := (60 : Int32)) S.1 S.2.1 dX11_balance_15 (by decide) ?_
    obtain ⟨u2, hu2, hF⟩ := bd_of hF
    refine sc_i (k := 3) (As := [.int a2, .int ((0 : Int32)), .int ((60 : Int32))]) (rest := []) (cR_in l hu2) S (gd_S m_391 m_392 m_5 m_393) rfl rfl (by decide +kernel) ⟨Nat.le_of_ble_eq_true rfl, Nat.le_of_ble_eq_true rfl⟩ rfl hl.1 rfl (Nat.le_of_ble_eq_true rfl) ⟨Nat.le_of_ble_eq_true rfl, Nat.le_of_ble_eq_true rfl⟩ dX11_balance_17 ?_
    refine lv_if_eq (tgt := 33) S.1 S.2.1 dX11_balance_20 (by decide) (fun hc => ?_) (fun hc => ?_)
    · have hF := it_pos hc hF
      refine lv_aload_n S.1 S.2.1 dX11_balance_33 rfl (lv_at hl 0 rfl) ?_
      refine lv_iconst (v := (1 : Int32)) S.1 S.2.1 dX11_balance_34 (by decide) ?_
      refine rp_thrown S hW dX11_balance_35 (fun H locs hW => ?_)
      refine lv_lconst (v := (0 : Int64)) S.1 S.2.1 dX11_balance_38 (by decide) ?_
      obtain rfl := Option.some.inj hF
      exact rr_l S hr hlk hW rfl dX11_balance_39
    · have hF := it_neg hc hF
      refine lv_iload_n S.1 S.2.1 dX11_balance_23 rfl (lv_at hl 3 rfl) ?_
      refine lv_iconst (v := (0 : Int32)) S.1 S.2.1 dX11_balance_24 (by decide) ?_
      refine lv_bipush (v := (60 : Int32)) S.1 S.2.1 dX11_balance_25 (by decide) ?_
      obtain ⟨u3, hu3, hF⟩ := bd_of hF
      refine sc_i (k := 3) (As := [.int a3, .int ((0 : Int32)), .int ((60 : Int32))]) (rest := []) (cR_in l hu3) S (gd_S m_391 m_392 m_5 m_393) rfl rfl (by decide +kernel) ⟨Nat.le_of_ble_eq_true rfl, Nat.le_of_ble_eq_true rfl⟩ rfl hl.1 rfl (Nat.le_of_ble_eq_true rfl) ⟨Nat.le_of_ble_eq_true rfl, Nat.le_of_ble_eq_true rfl⟩ dX11_balance_27 ?_
      refine lv_if_ne (tgt := 40) S.1 S.2.1 dX11_balance_30 (by decide) (fun hc => ?_) (fun hc => ?_)
      · have hF := it_neg hc hF
        refine lv_lconst (v := (0 : Int64)) S.1 S.2.1 dX11_balance_40 (by decide) ?_
        refine lv_lstore (lv' := [(4, .long ((0 : Int64))), (0, .ref (ad 35)), (1, .int a1), (2, .int a2), (3, .int a3)]) S.1 S.2.1 dX11_balance_41 hl (by decide) rfl (fun ls hl => ?_)
        refine lv_iconst (v := (0 : Int32)) S.1 S.2.1 dX11_balance_43 (by decide) ?_
        refine lv_istore (lv' := [(6, .int ((0 : Int32))), (4, .long ((0 : Int64))), (0, .ref (ad 35)), (1, .int a1), (2, .int a2), (3, .int a3)]) S.1 S.2.1 dX11_balance_44 hl (by decide) rfl (fun ls hl => ?_)
        obtain ⟨u4, hX, hF⟩ := bd_of hF
        refine jn1 (fun H locs ls => lv_has ls 7 [(4, .long u4)] ∧ RW D ad cA kk (pz σ 31 ((0 : Int32))) s (RA ad) H locs) 117 [] (fun H locs ls hJ => ?_) (fun Ju4 => ?_)
        · obtain ⟨hl, hW⟩ := hJ
          refine lv_lload S.1 S.2.1 dX11_balance_117 (lv_at hl 0 rfl) ?_
          obtain rfl := Option.some.inj hF
          exact rr_l S hr hlk hW rfl dX11_balance_119
        · refine lpW (fun (xu4 : Int64 × Int32) H locs ls => lv_has ls 7 [(0, .ref (ad 35)), (1, .int a1), (2, .int a2), (3, .int a3), (4, .long xu4.1), (6, .int xu4.2)] ∧ RW D ad cA kk (pz σ 31 ((0 : Int32))) s (RA ad) H locs) 46 (fun n xu4 => fR_balance_L46 (pz σ 31 ((0 : Int32))) a1 a2 a3 n xu4.1 xu4.2) u4 (fun _ => rfl) (fun n xu4 ihu4 hF H locs ls hJ => ?_) 1000 ((0 : Int64), (0 : Int32)) hX _ _ _ ⟨lv_sub hl [2, 3, 4, 5, 1, 0] rfl, hW⟩
          obtain ⟨hl, hW⟩ := hJ
          have hF : fR_balance_L46 (pz σ 31 ((0 : Int32))) a1 a2 a3 (n + 1) xu4.1 xu4.2 = some u4 := hF
          rw [fR_balance_L46] at hF
          refine lv_iload S.1 S.2.1 dX11_balance_46 (lv_at hl 5 rfl) ?_
          refine lv_aload_n S.1 S.2.1 dX11_balance_48 rfl (lv_at hl 0 rfl) ?_
          refine rg_entries S hW dX11_balance_49 ?_
          refine lv_icmp_ge (tgt := 117) S.1 S.2.1 dX11_balance_52 (by decide) (fun hc => ?_) (fun hc => ?_)
          · have hF := it_pos hc hF
            obtain rfl := Option.some.inj hF
            exact Ju4 _ _ _ ⟨lv_sub hl [4] rfl, hW⟩
          · have hF := it_neg hc hF
            refine lv_aload_n S.1 S.2.1 dX11_balance_55 rfl (lv_at hl 0 rfl) ?_
            refine rg_entryMember S hW dX11_balance_56 ?_
            refine lv_iload S.1 S.2.1 dX11_balance_59 (lv_at hl 5 rfl) ?_
            obtain ⟨h6, hF⟩ := gd_of hF
            refine rl_entryMember S hW h6 dX11_balance_61 ?_
            refine lv_iload_n S.1 S.2.1 dX11_balance_62 rfl (lv_at hl 1 rfl) ?_
            obtain ⟨u7, hX, hF⟩ := bd_of hF
            refine jn1 (fun H locs ls => lv_has ls 7 [(0, .ref (ad 35)), (1, .int a1), (2, .int a2), (3, .int a3), (4, .long u7), (6, .int xu4.2)] ∧ RW D ad cA kk (pz σ 31 ((0 : Int32))) s (RA ad) H locs) 111 [] (fun H locs ls hJ => ?_) (fun Ju7 => ?_)
            · obtain ⟨hl, hW⟩ := hJ
              refine lv_iinc (v := (xu4.2 + (1 : Int32))) (lv' := [(6, .int ((xu4.2 + (1 : Int32)))), (0, .ref (ad 35)), (1, .int a1), (2, .int a2), (3, .int a3), (4, .long u7)]) S.1 S.2.1 dX11_balance_111 hl (k := 5) rfl rfl (by decide) rfl (fun ls hl => ?_)
              refine lv_goto (tgt := 46) S.1 S.2.1 dX11_balance_114 (by decide) ?_
              exact ihu4 (u7, (xu4.2 + (1 : Int32))) hF _ _ _ ⟨lv_sub hl [1, 2, 3, 4, 5, 0] rfl, hW⟩
            · have hF := hX
              refine lv_icmp_ne (tgt := 111) S.1 S.2.1 dX11_balance_63 (by decide) (fun hc => ?_) (fun hc => ?_)
              · have hF := it_neg hc hF
                obtain rfl := Option.some.inj hF
                exact Ju7 _ _ _ ⟨lv_sub hl [0, 1, 2, 3, 4, 5] rfl, hW⟩
              · have hF := it_pos hc hF
                refine lv_aload_n S.1 S.2.1 dX11_balance_66 rfl (lv_at hl 0 rfl) ?_
                refine rg_entryMonth S hW dX11_balance_67 ?_
                refine lv_iload S.1 S.2.1 dX11_balance_70 (lv_at hl 5 rfl) ?_
                refine rl_entryMonth S hW h6 dX11_balance_72 ?_
                refine lv_iload_n S.1 S.2.1 dX11_balance_73 rfl (lv_at hl 2 rfl) ?_
                refine lv_icmp_gt (tgt := 111) S.1 S.2.1 dX11_balance_74 (by decide) (fun hc => ?_) (fun hc => ?_)
                · have hF := it_pos hc hF
                  obtain rfl := Option.some.inj hF
                  exact Ju7 _ _ _ ⟨lv_sub hl [0, 1, 2, 3, 4, 5] rfl, hW⟩
                · have hF := it_neg hc hF
                  refine lv_aload_n S.1 S.2.1 dX11_balance_77 rfl (lv_at hl 0 rfl) ?_
                  refine rg_struck S hW dX11_balance_78 ?_
                  refine lv_iload S.1 S.2.1 dX11_balance_81 (lv_at hl 5 rfl) ?_
                  refine rl_struck S hW h6 dX11_balance_83 ?_
                  refine lv_iconst (v := (-1 : Int32)) S.1 S.2.1 dX11_balance_84 (by decide) ?_
                  refine lv_icmp_eq (tgt := 99) S.1 S.2.1 dX11_balance_85 (by decide) (fun hc => ?_) (fun hc => ?_)
                  · have hF := it_pos hc hF
                    refine lv_lload S.1 S.2.1 dX11_balance_99 (lv_at hl 4 rfl) ?_
                    refine lv_aload_n S.1 S.2.1 dX11_balance_101 rfl (lv_at hl 0 rfl) ?_
                    refine rg_entryAmount S hW dX11_balance_102 ?_
                    refine lv_iload S.1 S.2.1 dX11_balance_105 (lv_at hl 5 rfl) ?_
                    refine rl_entryAmount S hW h6 dX11_balance_107 ?_
                    refine lv_ladd S.1 S.2.1 dX11_balance_108 ?_
                    refine lv_lstore (lv' := [(4, .long ((xu4.1 + (gg (pz σ 31 ((0 : Int32))) (xu4.2).toNatClampNeg)))), (0, .ref (ad 35)), (1, .int a1), (2, .int a2), (3, .int a3), (6, .int xu4.2)]) S.1 S.2.1 dX11_balance_109 hl (by decide) rfl (fun ls hl => ?_)
                    obtain rfl := Option.some.inj hF
                    exact Ju7 _ _ _ ⟨lv_sub hl [1, 2, 3, 4, 0, 5] rfl, hW⟩
                  · have hF := it_neg hc hF
                    refine lv_aload_n S.1 S.2.1 dX11_balance_88 rfl (lv_at hl 0 rfl) ?_
                    refine rg_struck S hW dX11_balance_89 ?_
                    refine lv_iload S.1 S.2.1 dX11_balance_92 (lv_at hl 5 rfl) ?_
                    refine rl_struck S hW h6 dX11_balance_94 ?_
                    refine lv_iload_n S.1 S.2.1 dX11_balance_95 rfl (lv_at hl 3 rfl) ?_
                    refine lv_icmp_le (tgt := 111) S.1 S.2.1 dX11_balance_96 (by decide) (fun hc => ?_) (fun hc => ?_)
                    · have hF := it_pos hc hF
                      obtain rfl := Option.some.inj hF
                      exact Ju7 _ _ _ ⟨lv_sub hl [0, 1, 2, 3, 4, 5] rfl, hW⟩
                    · have hF := it_neg hc hF
                      refine lv_lload S.1 S.2.1 dX11_balance_99 (lv_at hl 4 rfl) ?_
                      refine lv_aload_n S.1 S.2.1 dX11_balance_101 rfl (lv_at hl 0 rfl) ?_
                      refine rg_entryAmount S hW dX11_balance_102 ?_
                      refine lv_iload S.1 S.2.1 dX11_balance_105 (lv_at hl 5 rfl) ?_
                      refine rl_entryAmount S hW h6 dX11_balance_107 ?_
                      refine lv_ladd S.1 S.2.1 dX11_balance_108 ?_
                      refine lv_lstore (lv' := [(4, .long ((xu4.1 + (gg (pz σ 31 ((0 : Int32))) (xu4.2).toNatClampNeg)))), (0, .ref (ad 35)), (1, .int a1), (2, .int a2), (3, .int a3), (6, .int xu4.2)]) S.1 S.2.1 dX11_balance_109 hl (by decide) rfl (fun ls hl => ?_)
                      obtain rfl := Option.some.inj hF
                      exact Ju7 _ _ _ ⟨lv_sub hl [1, 2, 3, 4, 0, 5] rfl, hW⟩
      · have hF := it_pos hc hF
        refine lv_aload_n S.1 S.2.1 dX11_balance_33 rfl (lv_at hl 0 rfl) ?_
        refine lv_iconst (v := (1 : Int32)) S.1 S.2.1 dX11_balance_34 (by decide) ?_
        refine rp_thrown S hW dX11_balance_35 (fun H locs hW => ?_)
        refine lv_lconst (v := (0 : Int64)) S.1 S.2.1 dX11_balance_38 (by decide) ?_
        obtain rfl := Option.some.inj hF
        exact rr_l S hr hlk hW rfl dX11_balance_39
def fR_chance (σ : SR) (a1 : Int32) (a2 : Int32) : Option (Int32 × SR) :=
  Option.bind (fR_in a1 ((0 : Int32)) ((3 : Int32))) (fun u1 =>
  if u1 = 0 then
  some ((0 : Int32), pz σ 31 ((0 : Int32)))
  else
  Option.bind (fR_in a2 ((0 : Int32)) ((100 : Int32))) (fun u2 =>
  if u2 = 0 then
  some ((0 : Int32), pz σ 31 ((0 : Int32)))
  else
  if a1 < 0 ∨ 4 ≤ (a1).toNatClampNeg then none else
  some ((1 : Int32), pf (pz σ 31 ((0 : Int32))) 28 (a1).toNatClampNeg a2)))
set_option maxRecDepth 100000 in
set_option maxHeartbeats 4000000 in
theorem cR_chance (l : Launch) (D : va_G) (ad : Nat → Nat) (cA : Nat → ClassId) (kk : Nat → Nat) (hd : RD ad) {σ : SR} {a1 : Int32} {a2 : Int32} {o : Int32 × SR} (hF : fR_chance σ a1 a2 = some o) : Mi l yX11_chance cX11_chance 3 .boolean { frames := 1, cells := 0, slots := 0, locals := 22 } [.ref (ad 35), .int a1, .int a2] (RP D ad cA kk σ) o.1 (RP D ad cA kk (o.2)) (RA ad) := by
  refine Mi.of (own := RX11) rfl (by decide +kernel) (Nat.le_of_ble_eq_true rfl) ?_
  intro p e s m args below meth c ls S hr hlk hP hl
  have hW := RW.start hd hP
  have hl : lv_has ls 3 [(0, .ref (ad 35)), (1, .int a1), (2, .int a2)] := hl
  rw [fR_chance] at hF
  refine lv_aload_n S.1 S.2.1 dX11_chance_0 rfl (lv_at hl 0 rfl) ?_
  refine lv_iconst (v := (0 : Int32)) S.1 S.2.1 dX11_chance_1 (by decide) ?_
  refine rp_thrown S hW dX11_chance_2 (fun H locs hW => ?_)
  refine lv_iload_n S.1 S.2.1 dX11_chance_5 rfl (lv_at hl 1 rfl) ?_
  refine lv_iconst (v := (0 : Int32)) S.1 S.2.1 dX11_chance_6 (by decide) ?_
  refine lv_iconst (v := (3 : Int32)) S.1 S.2.1 dX11_chance_7 (by decide) ?_
  obtain ⟨u1, hu1, hF⟩ := bd_of hF
  refine sc_i (k := 3) (As := [.int a1, .int ((0 : Int32)), .int ((3 : Int32))]) (rest := []) (cR_in l hu1) S (gd_S m_391 m_392 m_5 m_393) rfl rfl (by decide +kernel) ⟨Nat.le_of_ble_eq_true rfl, Nat.le_of_ble_eq_true rfl⟩ rfl hl.1 rfl (Nat.le_of_ble_eq_true rfl) ⟨Nat.le_of_ble_eq_true rfl, Nat.le_of_ble_eq_true rfl⟩ dX11_chance_8 ?_
  refine lv_if_eq (tgt := 24) S.1 S.2.1 dX11_chance_11 (by decide) (fun hc => ?_) (fun hc => ?_)
  · have hF := it_pos hc hF
    refine lv_iconst (v := (0 : Int32)) S.1 S.2.1 dX11_chance_24 (by decide) ?_
    obtain rfl := Option.some.inj hF
    exact rr_i S hr hlk hW rfl rfl dX11_chance_25
  · have hF := it_neg hc hF
    refine lv_iload_n S.1 S.2.1 dX11_chance_14 rfl (lv_at hl 2 rfl) ?_
    refine lv_iconst (v := (0 : Int32)) S.1 S.2.1 dX11_chance_15 (by decide) ?_
    refine lv_bipush (v := (100 : Int32)) S.1 S.2.1 dX11_chance_16 (by decide) ?_
    obtain ⟨u2, hu2, hF⟩ := bd_of hF
    refine sc_i (k := 3) (As := [.int a2, .int ((0 : Int32)), .int ((100 : Int32))]) (rest := []) (cR_in l hu2) S (gd_S m_391 m_392 m_5 m_393) rfl rfl (by decide +kernel) ⟨Nat.le_of_ble_eq_true rfl, Nat.le_of_ble_eq_true rfl⟩ rfl hl.1 rfl (Nat.le_of_ble_eq_true rfl) ⟨Nat.le_of_ble_eq_true rfl, Nat.le_of_ble_eq_true rfl⟩ dX11_chance_18 ?_
    refine lv_if_ne (tgt := 26) S.1 S.2.1 dX11_chance_21 (by decide) (fun hc => ?_) (fun hc => ?_)
    · have hF := it_neg hc hF
      refine lv_aload_n S.1 S.2.1 dX11_chance_26 rfl (lv_at hl 0 rfl) ?_
      refine rg_chances S hW dX11_chance_27 ?_
      refine lv_iload_n S.1 S.2.1 dX11_chance_30 rfl (lv_at hl 1 rfl) ?_
      refine lv_iload_n S.1 S.2.1 dX11_chance_31 rfl (lv_at hl 2 rfl) ?_
      obtain ⟨h3, hF⟩ := gd_of hF
      refine rs_chances S hW h3 dX11_chance_32 (fun H locs hW => ?_)
      refine lv_iconst (v := (1 : Int32)) S.1 S.2.1 dX11_chance_33 (by decide) ?_
      obtain rfl := Option.some.inj hF
      exact rr_i S hr hlk hW rfl rfl dX11_chance_34
    · have hF := it_pos hc hF
      refine lv_iconst (v := (0 : Int32)) S.1 S.2.1 dX11_chance_24 (by decide) ?_
      obtain rfl := Option.some.inj hF
      exact rr_i S hr hlk hW rfl rfl dX11_chance_25
def fR_waysOf_L32 (σ : SR) (l1 : Int32) (l2 : Int32) (l3 : Int32) (l4 : Int64) (l6 : Int32) : Nat → Int64 → Int32 → Option (Int64)
  | 0, _, _ => none
  | n + 1, x7, x9 =>
    if l1 ≤ x9 then
    some ((x7))
    else
    if ((l2 >>> (((2 : Int32) * x9) &&& 31)) &&& (3 : Int32)) < 0 ∨ 4 ≤ (((l2 >>> (((2 : Int32) * x9) &&& 31)) &&& (3 : Int32))).toNatClampNeg then none else
    Option.bind (if ((l6 >>> (x9 &&& 31)) &&& (1 : Int32)) = (1 : Int32) then
    some (((gf σ 28 (((l2 >>> (((2 : Int32) * x9) &&& 31)) &&& (3 : Int32))).toNatClampNeg)).toInt64)
    else
    some ((((100 : Int32) - (gf σ 28 (((l2 >>> (((2 : Int32) * x9) &&& 31)) &&& (3 : Int32))).toNatClampNeg))).toInt64)) (fun u2 =>
    fR_waysOf_L32 σ l1 l2 l3 l4 l6 n ((x7 * u2)) ((x9 + (1 : Int32))))
def fR_waysOf_L6 (σ : SR) (l1 : Int32) (l2 : Int32) (l3 : Int32) : Nat → Int64 → Int32 → Option (Int64)
  | 0, _, _ => none
  | n + 1, x4, x6 =>
    if ((1 : Int32) <<< (l1 &&& 31)) ≤ x6 then
    some ((x4))
    else
    Option.bind (fJ_bitCount x6) (fun u1 =>
    Option.bind (if u1 = l3 then
    Option.bind (fR_waysOf_L32 σ l1 l2 l3 x4 x6 1000 ((1 : Int64)) ((0 : Int32))) (fun u3 =>
    some ((x4 + u3)))
    else
    some (x4)) (fun u2 =>
    fR_waysOf_L6 σ l1 l2 l3 n u2 ((x6 + (1 : Int32)))))
def fR_waysOf (σ : SR) (a1 : Int32) (a2 : Int32) (a3 : Int32) : Option (Int64) :=
  Option.bind (fR_waysOf_L6 σ a1 a2 a3 1000 ((0 : Int64)) ((0 : Int32))) (fun u1 =>
  some u1)
set_option maxRecDepth 100000 in
set_option maxHeartbeats 4000000 in
theorem cR_waysOf (l : Launch) (D : va_G) (ad : Nat → Nat) (cA : Nat → ClassId) (kk : Nat → Nat) (hd : RD ad) {σ : SR} {a1 : Int32} {a2 : Int32} {a3 : Int32} {o : Int64} (hF : fR_waysOf σ a1 a2 a3 = some o) : Ml l yX11_waysOf cX11_waysOf 11 { frames := 1, cells := 0, slots := 0, locals := 20 } [.ref (ad 35), .int a1, .int a2, .int a3] (RP D ad cA kk σ) o (RP D ad cA kk σ) (RA ad) := by
  refine Ml.of (own := RX11) rfl (by decide +kernel) (Nat.le_of_ble_eq_true rfl) ?_
  intro p e s m args below meth c ls S hr hlk hP hl
  have hW := RW.start hd hP
  have hl : lv_has ls 11 [(0, .ref (ad 35)), (1, .int a1), (2, .int a2), (3, .int a3)] := hl
  rw [fR_waysOf] at hF
  refine lv_lconst (v := (0 : Int64)) S.1 S.2.1 dX11_waysOf_0 (by decide) ?_
  refine lv_lstore (lv' := [(4, .long ((0 : Int64))), (0, .ref (ad 35)), (1, .int a1), (2, .int a2), (3, .int a3)]) S.1 S.2.1 dX11_waysOf_1 hl (by decide) rfl (fun ls hl => ?_)
  refine lv_iconst (v := (0 : Int32)) S.1 S.2.1 dX11_waysOf_3 (by decide) ?_
  refine lv_istore (lv' := [(6, .int ((0 : Int32))), (4, .long ((0 : Int64))), (0, .ref (ad 35)), (1, .int a1), (2, .int a2), (3, .int a3)]) S.1 S.2.1 dX11_waysOf_4 hl (by decide) rfl (fun ls hl => ?_)
  obtain ⟨u1, hX, hF⟩ := bd_of hF
  refine jn1 (fun H locs ls => lv_has ls 11 [(4, .long u1)] ∧ RW D ad cA kk σ s (RA ad) H locs) 100 [] (fun H locs ls hJ => ?_) (fun Ju1 => ?_)
  · obtain ⟨hl, hW⟩ := hJ
    refine lv_lload S.1 S.2.1 dX11_waysOf_100 (lv_at hl 0 rfl) ?_
    obtain rfl := Option.some.inj hF
    exact rr_l S hr hlk hW rfl dX11_waysOf_102
  · refine lpW (fun (xu1 : Int64 × Int32) H locs ls => lv_has ls 11 [(0, .ref (ad 35)), (1, .int a1), (2, .int a2), (3, .int a3), (4, .long xu1.1), (6, .int xu1.2)] ∧ RW D ad cA kk σ s (RA ad) H locs) 6 (fun n xu1 => fR_waysOf_L6 σ a1 a2 a3 n xu1.1 xu1.2) u1 (fun _ => rfl) (fun n xu1 ihu1 hF H locs ls hJ => ?_) 1000 ((0 : Int64), (0 : Int32)) hX _ _ _ ⟨lv_sub hl [2, 3, 4, 5, 1, 0] rfl, hW⟩
    obtain ⟨hl, hW⟩ := hJ
    have hF : fR_waysOf_L6 σ a1 a2 a3 (n + 1) xu1.1 xu1.2 = some u1 := hF
    rw [fR_waysOf_L6] at hF
    refine lv_iload S.1 S.2.1 dX11_waysOf_6 (lv_at hl 5 rfl) ?_
    refine lv_iconst (v := (1 : Int32)) S.1 S.2.1 dX11_waysOf_8 (by decide) ?_
    refine lv_iload_n S.1 S.2.1 dX11_waysOf_9 rfl (lv_at hl 1 rfl) ?_
    refine lv_ishl S.1 S.2.1 dX11_waysOf_10 ?_
    refine lv_icmp_ge (tgt := 100) S.1 S.2.1 dX11_waysOf_11 (by decide) (fun hc => ?_) (fun hc => ?_)
    · have hF := it_pos hc hF
      obtain rfl := Option.some.inj hF
      exact Ju1 _ _ _ ⟨lv_sub hl [4] rfl, hW⟩
    · have hF := it_neg hc hF
      refine lv_iload S.1 S.2.1 dX11_waysOf_14 (lv_at hl 5 rfl) ?_
      obtain ⟨u3, hu3, hF⟩ := bd_of hF
      refine sc_i (k := 1) (As := [.int xu1.2]) (rest := []) (cJ_bitCount l hu3) S (gd_S m_918 m_919 m_920 m_921) rfl rfl (by decide +kernel) ⟨Nat.le_of_ble_eq_true rfl, Nat.le_of_ble_eq_true rfl⟩ rfl hl.1 rfl (Nat.le_of_ble_eq_true rfl) ⟨Nat.le_of_ble_eq_true rfl, Nat.le_of_ble_eq_true rfl⟩ dX11_waysOf_16 ?_
      refine lv_iload_n S.1 S.2.1 dX11_waysOf_19 rfl (lv_at hl 3 rfl) ?_
      obtain ⟨u4, hX, hF⟩ := bd_of hF
      refine jn1 (fun H locs ls => lv_has ls 11 [(0, .ref (ad 35)), (1, .int a1), (2, .int a2), (3, .int a3), (4, .long u4), (6, .int xu1.2)] ∧ RW D ad cA kk σ s (RA ad) H locs) 94 [] (fun H locs ls hJ => ?_) (fun Ju4 => ?_)
      · obtain ⟨hl, hW⟩ := hJ
        refine lv_iinc (v := (xu1.2 + (1 : Int32))) (lv' := [(6, .int ((xu1.2 + (1 : Int32)))), (0, .ref (ad 35)), (1, .int a1), (2, .int a2), (3, .int a3), (4, .long u4)]) S.1 S.2.1 dX11_waysOf_94 hl (k := 5) rfl rfl (by decide) rfl (fun ls hl => ?_)
        refine lv_goto (tgt := 6) S.1 S.2.1 dX11_waysOf_97 (by decide) ?_
        exact ihu1 (u4, (xu1.2 + (1 : Int32))) hF _ _ _ ⟨lv_sub hl [1, 2, 3, 4, 5, 0] rfl, hW⟩
      · have hF := hX
        refine lv_icmp_eq (tgt := 26) S.1 S.2.1 dX11_waysOf_20 (by decide) (fun hc => ?_) (fun hc => ?_)
        · have hF := it_pos hc hF
          refine lv_lconst (v := (1 : Int64)) S.1 S.2.1 dX11_waysOf_26 (by decide) ?_
          refine lv_lstore (lv' := [(7, .long ((1 : Int64))), (0, .ref (ad 35)), (1, .int a1), (2, .int a2), (3, .int a3), (4, .long xu1.1), (6, .int xu1.2)]) S.1 S.2.1 dX11_waysOf_27 hl (by decide) rfl (fun ls hl => ?_)
          refine lv_iconst (v := (0 : Int32)) S.1 S.2.1 dX11_waysOf_29 (by decide) ?_
          refine lv_istore (lv' := [(9, .int ((0 : Int32))), (7, .long ((1 : Int64))), (0, .ref (ad 35)), (1, .int a1), (2, .int a2), (3, .int a3), (4, .long xu1.1), (6, .int xu1.2)]) S.1 S.2.1 dX11_waysOf_30 hl (by decide) rfl (fun ls hl => ?_)
          obtain ⟨u5, hX, hF⟩ := bd_of hF
          refine jn1 (fun H locs ls => lv_has ls 11 [(0, .ref (ad 35)), (1, .int a1), (2, .int a2), (3, .int a3), (4, .long xu1.1), (6, .int xu1.2), (7, .long u5)] ∧ RW D ad cA kk σ s (RA ad) H locs) 87 [] (fun H locs ls hJ => ?_) (fun Ju5 => ?_)
          · obtain ⟨hl, hW⟩ := hJ
            refine lv_lload S.1 S.2.1 dX11_waysOf_87 (lv_at hl 4 rfl) ?_
            refine lv_lload S.1 S.2.1 dX11_waysOf_89 (lv_at hl 6 rfl) ?_
            refine lv_ladd S.1 S.2.1 dX11_waysOf_91 ?_
            refine lv_lstore (lv' := [(4, .long ((xu1.1 + u5))), (0, .ref (ad 35)), (1, .int a1), (2, .int a2), (3, .int a3), (6, .int xu1.2), (7, .long u5)]) S.1 S.2.1 dX11_waysOf_92 hl (by decide) rfl (fun ls hl => ?_)
            obtain rfl := Option.some.inj hF
            exact Ju4 _ _ _ ⟨lv_sub hl [1, 2, 3, 4, 0, 5] rfl, hW⟩
          · refine lpW (fun (xu5 : Int64 × Int32) H locs ls => lv_has ls 11 [(0, .ref (ad 35)), (1, .int a1), (2, .int a2), (3, .int a3), (4, .long xu1.1), (6, .int xu1.2), (7, .long xu5.1), (9, .int xu5.2)] ∧ RW D ad cA kk σ s (RA ad) H locs) 32 (fun n xu5 => fR_waysOf_L32 σ a1 a2 a3 xu1.1 xu1.2 n xu5.1 xu5.2) u5 (fun _ => rfl) (fun n xu5 ihu5 hF H locs ls hJ => ?_) 1000 ((1 : Int64), (0 : Int32)) hX _ _ _ ⟨lv_sub hl [2, 3, 4, 5, 6, 7, 1, 0] rfl, hW⟩
            obtain ⟨hl, hW⟩ := hJ
            have hF : fR_waysOf_L32 σ a1 a2 a3 xu1.1 xu1.2 (n + 1) xu5.1 xu5.2 = some u5 := hF
            rw [fR_waysOf_L32] at hF
            refine lv_iload S.1 S.2.1 dX11_waysOf_32 (lv_at hl 7 rfl) ?_
            refine lv_iload_n S.1 S.2.1 dX11_waysOf_34 rfl (lv_at hl 1 rfl) ?_
            refine lv_icmp_ge (tgt := 87) S.1 S.2.1 dX11_waysOf_35 (by decide) (fun hc => ?_) (fun hc => ?_)
            · have hF := it_pos hc hF
              obtain rfl := Option.some.inj hF
              exact Ju5 _ _ _ ⟨lv_sub hl [0, 1, 2, 3, 4, 5, 6] rfl, hW⟩
            · have hF := it_neg hc hF
              refine lv_aload_n S.1 S.2.1 dX11_waysOf_38 rfl (lv_at hl 0 rfl) ?_
              refine rg_chances S hW dX11_waysOf_39 ?_
              refine lv_iload_n S.1 S.2.1 dX11_waysOf_42 rfl (lv_at hl 2 rfl) ?_
              refine lv_iconst (v := (2 : Int32)) S.1 S.2.1 dX11_waysOf_43 (by decide) ?_
              refine lv_iload S.1 S.2.1 dX11_waysOf_44 (lv_at hl 7 rfl) ?_
              refine lv_imul S.1 S.2.1 dX11_waysOf_46 ?_
              refine lv_ishr S.1 S.2.1 dX11_waysOf_47 ?_
              refine lv_iconst (v := (3 : Int32)) S.1 S.2.1 dX11_waysOf_48 (by decide) ?_
              refine lv_iand S.1 S.2.1 dX11_waysOf_49 ?_
              obtain ⟨h7, hF⟩ := gd_of hF
              refine rl_chances S hW h7 dX11_waysOf_50 ?_
              refine lv_istore (lv' := [(10, .int ((gf σ 28 (((a2 >>> (((2 : Int32) * xu5.2) &&& 31)) &&& (3 : Int32))).toNatClampNeg))), (0, .ref (ad 35)), (1, .int a1), (2, .int a2), (3, .int a3), (4, .long xu1.1), (6, .int xu1.2), (7, .long xu5.1), (9, .int xu5.2)]) S.1 S.2.1 dX11_waysOf_51 hl (by decide) rfl (fun ls hl => ?_)
              refine lv_lload S.1 S.2.1 dX11_waysOf_53 (lv_at hl 7 rfl) ?_
              refine lv_iload S.1 S.2.1 dX11_waysOf_55 (lv_at hl 6 rfl) ?_
              refine lv_iload S.1 S.2.1 dX11_waysOf_57 (lv_at hl 8 rfl) ?_
              refine lv_ishr S.1 S.2.1 dX11_waysOf_59 ?_
              refine lv_iconst (v := (1 : Int32)) S.1 S.2.1 dX11_waysOf_60 (by decide) ?_
              refine lv_iand S.1 S.2.1 dX11_waysOf_61 ?_
              refine lv_iconst (v := (1 : Int32)) S.1 S.2.1 dX11_waysOf_62 (by decide) ?_
              obtain ⟨u8, hX, hF⟩ := bd_of hF
              refine jn1 (fun H locs ls => lv_has ls 11 [(0, .ref (ad 35)), (1, .int a1), (2, .int a2), (3, .int a3), (4, .long xu1.1), (6, .int xu1.2), (9, .int xu5.2)] ∧ RW D ad cA kk σ s (RA ad) H locs) 78 [.long u8, .long xu5.1] (fun H locs ls hJ => ?_) (fun Ju8 => ?_)
              · obtain ⟨hl, hW⟩ := hJ
                refine lv_lmul S.1 S.2.1 dX11_waysOf_78 ?_
                refine lv_lstore (lv' := [(7, .long ((xu5.1 * u8))), (0, .ref (ad 35)), (1, .int a1), (2, .int a2), (3, .int a3), (4, .long xu1.1), (6, .int xu1.2), (9, .int xu5.2)]) S.1 S.2.1 dX11_waysOf_79 hl (by decide) rfl (fun ls hl => ?_)
                refine lv_iinc (v := (xu5.2 + (1 : Int32))) (lv' := [(9, .int ((xu5.2 + (1 : Int32)))), (7, .long ((xu5.1 * u8))), (0, .ref (ad 35)), (1, .int a1), (2, .int a2), (3, .int a3), (4, .long xu1.1), (6, .int xu1.2)]) S.1 S.2.1 dX11_waysOf_81 hl (k := 7) rfl rfl (by decide) rfl (fun ls hl => ?_)
                refine lv_goto (tgt := 32) S.1 S.2.1 dX11_waysOf_84 (by decide) ?_
                exact ihu5 ((xu5.1 * u8), (xu5.2 + (1 : Int32))) hF _ _ _ ⟨lv_sub hl [2, 3, 4, 5, 6, 7, 1, 0] rfl, hW⟩
              · have hF := hX
                refine lv_icmp_ne (tgt := 72) S.1 S.2.1 dX11_waysOf_63 (by decide) (fun hc => ?_) (fun hc => ?_)
                · have hF := it_neg hc hF
                  refine lv_bipush (v := (100 : Int32)) S.1 S.2.1 dX11_waysOf_72 (by decide) ?_
                  refine lv_iload S.1 S.2.1 dX11_waysOf_74 (lv_at hl 0 rfl) ?_
                  refine lv_isub S.1 S.2.1 dX11_waysOf_76 ?_
                  refine lv_i2l (v := (((100 : Int32) - (gf σ 28 (((a2 >>> (((2 : Int32) * xu5.2) &&& 31)) &&& (3 : Int32))).toNatClampNeg))).toInt64) S.1 S.2.1 dX11_waysOf_77 rfl ?_
                  obtain rfl := Option.some.inj hF
                  exact Ju8 _ _ _ ⟨lv_sub hl [1, 2, 3, 4, 5, 6, 8] rfl, hW⟩
                · have hF := it_pos hc hF
                  refine lv_iload S.1 S.2.1 dX11_waysOf_66 (lv_at hl 0 rfl) ?_
                  refine lv_i2l (v := ((gf σ 28 (((a2 >>> (((2 : Int32) * xu5.2) &&& 31)) &&& (3 : Int32))).toNatClampNeg)).toInt64) S.1 S.2.1 dX11_waysOf_68 rfl ?_
                  refine lv_goto (tgt := 78) S.1 S.2.1 dX11_waysOf_69 (by decide) ?_
                  obtain rfl := Option.some.inj hF
                  exact Ju8 _ _ _ ⟨lv_sub hl [1, 2, 3, 4, 5, 6, 8] rfl, hW⟩
        · have hF := it_neg hc hF
          refine lv_goto (tgt := 94) S.1 S.2.1 dX11_waysOf_23 (by decide) ?_
          obtain rfl := Option.some.inj hF
          exact Ju4 _ _ _ ⟨lv_sub hl [0, 1, 2, 3, 4, 5] rfl, hW⟩
def fR_print_L57 (σ : SR) (l1 : Int32) (l2 : Int32) (l3 : Int32) (l4 : Int32) (l5 : Int32) (l6 : Int64) (l8 : Int32) : Nat → Int64 → Int32 → Option (Int64)
  | 0, _, _ => none
  | n + 1, x9, x11 =>
    if l1 < x11 then
    some ((x9))
    else
    Option.bind (fR_waysOf σ l1 l2 x11) (fun u1 =>
    Option.bind (if l8 ≤ x11 then
    some ((l4 * (x11 - l8)))
    else
    some ((l3 * (l8 - x11)))) (fun u2 =>
    fR_print_L57 σ l1 l2 l3 l4 l5 l6 l8 n ((x9 + (u1 * (u2).toInt64))) ((x11 + (1 : Int32)))))
def fR_print_L45 (σ : SR) (l1 : Int32) (l2 : Int32) (l3 : Int32) (l4 : Int32) : Nat → Int32 → Int64 → Int32 → Option (Int32)
  | 0, _, _, _ => none
  | n + 1, x5, x6, x8 =>
    if l1 < x8 then
    some ((x5))
    else
    Option.bind (fR_print_L57 σ l1 l2 l3 l4 x5 x6 x8 1000 ((0 : Int64)) ((0 : Int32))) (fun u1 =>
    Option.bind (if x8 ≤ 0 then
    some (x8, u1)
    else
    if (lg_cmp u1 x6) < 0 then
    some (x8, u1)
    else
    some (x5, x6)) (fun u5 =>
    fR_print_L45 σ l1 l2 l3 l4 n u5.1 u5.2 ((x8 + (1 : Int32)))))
def fR_print (σ : SR) (a1 : Int32) (a2 : Int32) (a3 : Int32) (a4 : Int32) : Option (Int32 × SR) :=
  Option.bind (fR_areKinds a1 a2) (fun u1 =>
  if u1 = 0 then
  some ((-1 : Int32), pz σ 31 ((0 : Int32)))
  else
  Option.bind (fR_in a3 ((1 : Int32)) ((99 : Int32))) (fun u2 =>
  if u2 = 0 then
  some ((-1 : Int32), pz σ 31 ((0 : Int32)))
  else
  Option.bind (fR_in a4 ((1 : Int32)) ((99 : Int32))) (fun u3 =>
  if u3 = 0 then
  some ((-1 : Int32), pz σ 31 ((0 : Int32)))
  else
  Option.bind (fR_print_L45 (pz σ 31 ((0 : Int32))) a1 a2 a3 a4 1000 ((0 : Int32)) ((0 : Int64)) ((0 : Int32))) (fun u4 =>
  some (u4, pz σ 31 ((0 : Int32)))))))
set_option maxRecDepth 100000 in
set_option maxHeartbeats 4000000 in
theorem cR_print (l : Launch) (D : va_G) (ad : Nat → Nat) (cA : Nat → ClassId) (kk : Nat → Nat) (hd : RD ad) {σ : SR} {a1 : Int32} {a2 : Int32} {a3 : Int32} {a4 : Int32} {o : Int32 × SR} (hF : fR_print σ a1 a2 a3 a4 = some o) : Mi l yX11_print cX11_print 12 .int { frames := 2, cells := 0, slots := 0, locals := 50 } [.ref (ad 35), .int a1, .int a2, .int a3, .int a4] (RP D ad cA kk σ) o.1 (RP D ad cA kk (o.2)) (RA ad) := by
  refine Mi.of (own := RX11) rfl (by decide +kernel) (Nat.le_of_ble_eq_true rfl) ?_
  intro p e s m args below meth c ls S hr hlk hP hl
  have hW := RW.start hd hP
  have hl : lv_has ls 12 [(0, .ref (ad 35)), (1, .int a1), (2, .int a2), (3, .int a3), (4, .int a4)] := hl
  rw [fR_print] at hF
  refine lv_aload_n S.1 S.2.1 dX11_print_0 rfl (lv_at hl 0 rfl) ?_
  refine lv_iconst (v := (0 : Int32)) S.1 S.2.1 dX11_print_1 (by decide) ?_
  refine rp_thrown S hW dX11_print_2 (fun H locs hW => ?_)
  refine lv_iload_n S.1 S.2.1 dX11_print_5 rfl (lv_at hl 1 rfl) ?_
  refine lv_iload_n S.1 S.2.1 dX11_print_6 rfl (lv_at hl 2 rfl) ?_
  obtain ⟨u1, hu1, hF⟩ := bd_of hF
  refine sc_i (k := 2) (As := [.int a1, .int a2]) (rest := []) (cR_areKinds l hu1) S (gd_S m_911 m_912 m_5 m_913) rfl rfl (by decide +kernel) ⟨Nat.le_of_ble_eq_true rfl, Nat.le_of_ble_eq_true rfl⟩ rfl hl.1 rfl (Nat.le_of_ble_eq_true rfl) ⟨Nat.le_of_ble_eq_true rfl, Nat.le_of_ble_eq_true rfl⟩ dX11_print_7 ?_
  refine lv_if_eq (tgt := 34) S.1 S.2.1 dX11_print_10 (by decide) (fun hc => ?_) (fun hc => ?_)
  · have hF := it_pos hc hF
    refine lv_iconst (v := (-1 : Int32)) S.1 S.2.1 dX11_print_34 (by decide) ?_
    obtain rfl := Option.some.inj hF
    exact rr_i S hr hlk hW rfl rfl dX11_print_35
  · have hF := it_neg hc hF
    refine lv_iload_n S.1 S.2.1 dX11_print_13 rfl (lv_at hl 3 rfl) ?_
    refine lv_iconst (v := (1 : Int32)) S.1 S.2.1 dX11_print_14 (by decide) ?_
    refine lv_bipush (v := (99 : Int32)) S.1 S.2.1 dX11_print_15 (by decide) ?_
    obtain ⟨u2, hu2, hF⟩ := bd_of hF
    refine sc_i (k := 3) (As := [.int a3, .int ((1 : Int32)), .int ((99 : Int32))]) (rest := []) (cR_in l hu2) S (gd_S m_391 m_392 m_5 m_393) rfl rfl (by decide +kernel) ⟨Nat.le_of_ble_eq_true rfl, Nat.le_of_ble_eq_true rfl⟩ rfl hl.1 rfl (Nat.le_of_ble_eq_true rfl) ⟨Nat.le_of_ble_eq_true rfl, Nat.le_of_ble_eq_true rfl⟩ dX11_print_17 ?_
    refine lv_if_eq (tgt := 34) S.1 S.2.1 dX11_print_20 (by decide) (fun hc => ?_) (fun hc => ?_)
    · have hF := it_pos hc hF
      refine lv_iconst (v := (-1 : Int32)) S.1 S.2.1 dX11_print_34 (by decide) ?_
      obtain rfl := Option.some.inj hF
      exact rr_i S hr hlk hW rfl rfl dX11_print_35
    · have hF := it_neg hc hF
      refine lv_iload S.1 S.2.1 dX11_print_23 (lv_at hl 4 rfl) ?_
      refine lv_iconst (v := (1 : Int32)) S.1 S.2.1 dX11_print_25 (by decide) ?_
      refine lv_bipush (v := (99 : Int32)) S.1 S.2.1 dX11_print_26 (by decide) ?_
      obtain ⟨u3, hu3, hF⟩ := bd_of hF
      refine sc_i (k := 3) (As := [.int a4, .int ((1 : Int32)), .int ((99 : Int32))]) (rest := []) (cR_in l hu3) S (gd_S m_391 m_392 m_5 m_393) rfl rfl (by decide +kernel) ⟨Nat.le_of_ble_eq_true rfl, Nat.le_of_ble_eq_true rfl⟩ rfl hl.1 rfl (Nat.le_of_ble_eq_true rfl) ⟨Nat.le_of_ble_eq_true rfl, Nat.le_of_ble_eq_true rfl⟩ dX11_print_28 ?_
      refine lv_if_ne (tgt := 36) S.1 S.2.1 dX11_print_31 (by decide) (fun hc => ?_) (fun hc => ?_)
      · have hF := it_neg hc hF
        refine lv_iconst (v := (0 : Int32)) S.1 S.2.1 dX11_print_36 (by decide) ?_
        refine lv_istore (lv' := [(5, .int ((0 : Int32))), (0, .ref (ad 35)), (1, .int a1), (2, .int a2), (3, .int a3), (4, .int a4)]) S.1 S.2.1 dX11_print_37 hl (by decide) rfl (fun ls hl => ?_)
        refine lv_lconst (v := (0 : Int64)) S.1 S.2.1 dX11_print_39 (by decide) ?_
        refine lv_lstore (lv' := [(6, .long ((0 : Int64))), (5, .int ((0 : Int32))), (0, .ref (ad 35)), (1, .int a1), (2, .int a2), (3, .int a3), (4, .int a4)]) S.1 S.2.1 dX11_print_40 hl (by decide) rfl (fun ls hl => ?_)
        refine lv_iconst (v := (0 : Int32)) S.1 S.2.1 dX11_print_42 (by decide) ?_
        refine lv_istore (lv' := [(8, .int ((0 : Int32))), (6, .long ((0 : Int64))), (5, .int ((0 : Int32))), (0, .ref (ad 35)), (1, .int a1), (2, .int a2), (3, .int a3), (4, .int a4)]) S.1 S.2.1 dX11_print_43 hl (by decide) rfl (fun ls hl => ?_)
        obtain ⟨u4, hX, hF⟩ := bd_of hF
        refine jn1 (fun H locs ls => lv_has ls 12 [(5, .int u4)] ∧ RW D ad cA kk (pz σ 31 ((0 : Int32))) s (RA ad) H locs) 139 [] (fun H locs ls hJ => ?_) (fun Ju4 => ?_)
        · obtain ⟨hl, hW⟩ := hJ
          refine lv_iload S.1 S.2.1 dX11_print_139 (lv_at hl 0 rfl) ?_
          obtain rfl := Option.some.inj hF
          exact rr_i S hr hlk hW rfl rfl dX11_print_141
        · refine lpW (fun (xu4 : Int32 × Int64 × Int32) H locs ls => lv_has ls 12 [(0, .ref (ad 35)), (1, .int a1), (2, .int a2), (3, .int a3), (4, .int a4), (5, .int xu4.1), (6, .long xu4.2.1), (8, .int xu4.2.2)] ∧ RW D ad cA kk (pz σ 31 ((0 : Int32))) s (RA ad) H locs) 45 (fun n xu4 => fR_print_L45 (pz σ 31 ((0 : Int32))) a1 a2 a3 a4 n xu4.1 xu4.2.1 xu4.2.2) u4 (fun _ => rfl) (fun n xu4 ihu4 hF H locs ls hJ => ?_) 1000 ((0 : Int32), (0 : Int64), (0 : Int32)) hX _ _ _ ⟨lv_sub hl [3, 4, 5, 6, 7, 2, 1, 0] rfl, hW⟩
          obtain ⟨hl, hW⟩ := hJ
          have hF : fR_print_L45 (pz σ 31 ((0 : Int32))) a1 a2 a3 a4 (n + 1) xu4.1 xu4.2.1 xu4.2.2 = some u4 := hF
          rw [fR_print_L45] at hF
          refine lv_iload S.1 S.2.1 dX11_print_45 (lv_at hl 7 rfl) ?_
          refine lv_iload_n S.1 S.2.1 dX11_print_47 rfl (lv_at hl 1 rfl) ?_
          refine lv_icmp_gt (tgt := 139) S.1 S.2.1 dX11_print_48 (by decide) (fun hc => ?_) (fun hc => ?_)
          · have hF := it_pos hc hF
            obtain rfl := Option.some.inj hF
            exact Ju4 _ _ _ ⟨lv_sub hl [5] rfl, hW⟩
          · have hF := it_neg hc hF
            refine lv_lconst (v := (0 : Int64)) S.1 S.2.1 dX11_print_51 (by decide) ?_
            refine lv_lstore (lv' := [(9, .long ((0 : Int64))), (0, .ref (ad 35)), (1, .int a1), (2, .int a2), (3, .int a3), (4, .int a4), (5, .int xu4.1), (6, .long xu4.2.1), (8, .int xu4.2.2)]) S.1 S.2.1 dX11_print_52 hl (by decide) rfl (fun ls hl => ?_)
            refine lv_iconst (v := (0 : Int32)) S.1 S.2.1 dX11_print_54 (by decide) ?_
            refine lv_istore (lv' := [(11, .int ((0 : Int32))), (9, .long ((0 : Int64))), (0, .ref (ad 35)), (1, .int a1), (2, .int a2), (3, .int a3), (4, .int a4), (5, .int xu4.1), (6, .long xu4.2.1), (8, .int xu4.2.2)]) S.1 S.2.1 dX11_print_55 hl (by decide) rfl (fun ls hl => ?_)
            obtain ⟨u6, hX, hF⟩ := bd_of hF
            refine jn1 (fun H locs ls => lv_has ls 12 [(0, .ref (ad 35)), (1, .int a1), (2, .int a2), (3, .int a3), (4, .int a4), (5, .int xu4.1), (6, .long xu4.2.1), (8, .int xu4.2.2), (9, .long u6)] ∧ RW D ad cA kk (pz σ 31 ((0 : Int32))) s (RA ad) H locs) 109 [] (fun H locs ls hJ => ?_) (fun Ju6 => ?_)
            · obtain ⟨hl, hW⟩ := hJ
              refine lv_iload S.1 S.2.1 dX11_print_109 (lv_at hl 7 rfl) ?_
              obtain ⟨u10, hX, hF⟩ := bd_of hF
              refine jn1 (fun H locs ls => lv_has ls 12 [(0, .ref (ad 35)), (1, .int a1), (2, .int a2), (3, .int a3), (4, .int a4), (5, .int u10.1), (6, .long u10.2), (8, .int xu4.2.2)] ∧ RW D ad cA kk (pz σ 31 ((0 : Int32))) s (RA ad) H locs) 133 [] (fun H locs ls hJ => ?_) (fun Ju10 => ?_)
              · obtain ⟨hl, hW⟩ := hJ
                refine lv_iinc (v := (xu4.2.2 + (1 : Int32))) (lv' := [(8, .int ((xu4.2.2 + (1 : Int32)))), (0, .ref (ad 35)), (1, .int a1), (2, .int a2), (3, .int a3), (4, .int a4), (5, .int u10.1), (6, .long u10.2)]) S.1 S.2.1 dX11_print_133 hl (k := 7) rfl rfl (by decide) rfl (fun ls hl => ?_)
                refine lv_goto (tgt := 45) S.1 S.2.1 dX11_print_136 (by decide) ?_
                exact ihu4 (u10.1, u10.2, (xu4.2.2 + (1 : Int32))) hF _ _ _ ⟨lv_sub hl [1, 2, 3, 4, 5, 6, 7, 0] rfl, hW⟩
              · have hF := hX
                refine lv_if_le (tgt := 125) S.1 S.2.1 dX11_print_111 (by decide) (fun hc => ?_) (fun hc => ?_)
                · have hF := it_pos hc hF
                  refine lv_iload S.1 S.2.1 dX11_print_125 (lv_at hl 7 rfl) ?_
                  refine lv_istore (lv' := [(5, .int xu4.2.2), (0, .ref (ad 35)), (1, .int a1), (2, .int a2), (3, .int a3), (4, .int a4), (6, .long xu4.2.1), (8, .int xu4.2.2), (9, .long u6)]) S.1 S.2.1 dX11_print_127 hl (by decide) rfl (fun ls hl => ?_)
                  refine lv_lload S.1 S.2.1 dX11_print_129 (lv_at hl 8 rfl) ?_
                  refine lv_lstore (lv' := [(6, .long u6), (5, .int xu4.2.2), (0, .ref (ad 35)), (1, .int a1), (2, .int a2), (3, .int a3), (4, .int a4), (8, .int xu4.2.2), (9, .long u6)]) S.1 S.2.1 dX11_print_131 hl (by decide) rfl (fun ls hl => ?_)
                  obtain rfl := Option.some.inj hF
                  exact Ju10 _ _ _ ⟨lv_sub hl [2, 3, 4, 5, 6, 1, 0, 7] rfl, hW⟩
                · have hF := it_neg hc hF
                  refine lv_lload S.1 S.2.1 dX11_print_114 (lv_at hl 8 rfl) ?_
                  refine lv_lload S.1 S.2.1 dX11_print_116 (lv_at hl 6 rfl) ?_
                  refine W.lcmp S.1 S.2.1 dX11_print_118 ?_
                  refine lv_if_lt (tgt := 125) S.1 S.2.1 dX11_print_119 (by decide) (fun hc => ?_) (fun hc => ?_)
                  · have hF := it_pos hc hF
                    refine lv_iload S.1 S.2.1 dX11_print_125 (lv_at hl 7 rfl) ?_
                    refine lv_istore (lv' := [(5, .int xu4.2.2), (0, .ref (ad 35)), (1, .int a1), (2, .int a2), (3, .int a3), (4, .int a4), (6, .long xu4.2.1), (8, .int xu4.2.2), (9, .long u6)]) S.1 S.2.1 dX11_print_127 hl (by decide) rfl (fun ls hl => ?_)
                    refine lv_lload S.1 S.2.1 dX11_print_129 (lv_at hl 8 rfl) ?_
                    refine lv_lstore (lv' := [(6, .long u6), (5, .int xu4.2.2), (0, .ref (ad 35)), (1, .int a1), (2, .int a2), (3, .int a3), (4, .int a4), (8, .int xu4.2.2), (9, .long u6)]) S.1 S.2.1 dX11_print_131 hl (by decide) rfl (fun ls hl => ?_)
                    obtain rfl := Option.some.inj hF
                    exact Ju10 _ _ _ ⟨lv_sub hl [2, 3, 4, 5, 6, 1, 0, 7] rfl, hW⟩
                  · have hF := it_neg hc hF
                    refine lv_goto (tgt := 133) S.1 S.2.1 dX11_print_122 (by decide) ?_
                    obtain rfl := Option.some.inj hF
                    exact Ju10 _ _ _ ⟨lv_sub hl [0, 1, 2, 3, 4, 5, 6, 7] rfl, hW⟩
            · refine lpW (fun (xu6 : Int64 × Int32) H locs ls => lv_has ls 12 [(0, .ref (ad 35)), (1, .int a1), (2, .int a2), (3, .int a3), (4, .int a4), (5, .int xu4.1), (6, .long xu4.2.1), (8, .int xu4.2.2), (9, .long xu6.1), (11, .int xu6.2)] ∧ RW D ad cA kk (pz σ 31 ((0 : Int32))) s (RA ad) H locs) 57 (fun n xu6 => fR_print_L57 (pz σ 31 ((0 : Int32))) a1 a2 a3 a4 xu4.1 xu4.2.1 xu4.2.2 n xu6.1 xu6.2) u6 (fun _ => rfl) (fun n xu6 ihu6 hF H locs ls hJ => ?_) 1000 ((0 : Int64), (0 : Int32)) hX _ _ _ ⟨lv_sub hl [2, 3, 4, 5, 6, 7, 8, 9, 1, 0] rfl, hW⟩
              obtain ⟨hl, hW⟩ := hJ
              have hF : fR_print_L57 (pz σ 31 ((0 : Int32))) a1 a2 a3 a4 xu4.1 xu4.2.1 xu4.2.2 (n + 1) xu6.1 xu6.2 = some u6 := hF
              rw [fR_print_L57] at hF
              refine lv_iload S.1 S.2.1 dX11_print_57 (lv_at hl 9 rfl) ?_
              refine lv_iload_n S.1 S.2.1 dX11_print_59 rfl (lv_at hl 1 rfl) ?_
              refine lv_icmp_gt (tgt := 109) S.1 S.2.1 dX11_print_60 (by decide) (fun hc => ?_) (fun hc => ?_)
              · have hF := it_pos hc hF
                obtain rfl := Option.some.inj hF
                exact Ju6 _ _ _ ⟨lv_sub hl [0, 1, 2, 3, 4, 5, 6, 7, 8] rfl, hW⟩
              · have hF := it_neg hc hF
                refine lv_lload S.1 S.2.1 dX11_print_63 (lv_at hl 8 rfl) ?_
                refine lv_aload_n S.1 S.2.1 dX11_print_65 rfl (lv_at hl 0 rfl) ?_
                refine lv_iload_n S.1 S.2.1 dX11_print_66 rfl (lv_at hl 1 rfl) ?_
                refine lv_iload_n S.1 S.2.1 dX11_print_67 rfl (lv_at hl 2 rfl) ?_
                refine lv_iload S.1 S.2.1 dX11_print_68 (lv_at hl 9 rfl) ?_
                obtain ⟨u8, hu8, hF⟩ := bd_of hF
                refine rc_l (k := 3) (As := [.int a1, .int a2, .int xu6.2]) (rest := [.long xu6.1]) (cR_waysOf l D ad cA kk hd hu8) hd (fun _ h => h) S hW (gd_V m_914 m_915 m_916 m_5 m_917) (by decide +kernel) ⟨Nat.le_of_ble_eq_true rfl, Nat.le_of_ble_eq_true rfl⟩ rfl hl.1 rfl (Nat.le_of_ble_eq_true rfl) ⟨Nat.le_of_ble_eq_true rfl, Nat.le_of_ble_eq_true rfl⟩ dX11_print_70 (fun H locs hW => ?_)
                refine lv_iload S.1 S.2.1 dX11_print_73 (lv_at hl 9 rfl) ?_
                refine lv_iload S.1 S.2.1 dX11_print_75 (lv_at hl 7 rfl) ?_
                obtain ⟨u9, hX, hF⟩ := bd_of hF
                refine jn1 (fun H locs ls => lv_has ls 12 [(0, .ref (ad 35)), (1, .int a1), (2, .int a2), (3, .int a3), (4, .int a4), (5, .int xu4.1), (6, .long xu4.2.1), (8, .int xu4.2.2), (11, .int xu6.2)] ∧ RW D ad cA kk (pz σ 31 ((0 : Int32))) s (RA ad) H locs) 98 [.int u9, .long u8, .long xu6.1] (fun H locs ls hJ => ?_) (fun Ju9 => ?_)
                · obtain ⟨hl, hW⟩ := hJ
                  refine lv_i2l (v := (u9).toInt64) S.1 S.2.1 dX11_print_98 rfl ?_
                  refine lv_lmul S.1 S.2.1 dX11_print_99 ?_
                  refine lv_ladd S.1 S.2.1 dX11_print_100 ?_
                  refine lv_lstore (lv' := [(9, .long ((xu6.1 + (u8 * (u9).toInt64)))), (0, .ref (ad 35)), (1, .int a1), (2, .int a2), (3, .int a3), (4, .int a4), (5, .int xu4.1), (6, .long xu4.2.1), (8, .int xu4.2.2), (11, .int xu6.2)]) S.1 S.2.1 dX11_print_101 hl (by decide) rfl (fun ls hl => ?_)
                  refine lv_iinc (v := (xu6.2 + (1 : Int32))) (lv' := [(11, .int ((xu6.2 + (1 : Int32)))), (9, .long ((xu6.1 + (u8 * (u9).toInt64)))), (0, .ref (ad 35)), (1, .int a1), (2, .int a2), (3, .int a3), (4, .int a4), (5, .int xu4.1), (6, .long xu4.2.1), (8, .int xu4.2.2)]) S.1 S.2.1 dX11_print_103 hl (k := 9) rfl rfl (by decide) rfl (fun ls hl => ?_)
                  refine lv_goto (tgt := 57) S.1 S.2.1 dX11_print_106 (by decide) ?_
                  exact ihu6 ((xu6.1 + (u8 * (u9).toInt64)), (xu6.2 + (1 : Int32))) hF _ _ _ ⟨lv_sub hl [2, 3, 4, 5, 6, 7, 8, 9, 1, 0] rfl, hW⟩
                · have hF := hX
                  refine lv_icmp_ge (tgt := 90) S.1 S.2.1 dX11_print_77 (by decide) (fun hc => ?_) (fun hc => ?_)
                  · have hF := it_pos hc hF
                    refine lv_iload S.1 S.2.1 dX11_print_90 (lv_at hl 4 rfl) ?_
                    refine lv_iload S.1 S.2.1 dX11_print_92 (lv_at hl 9 rfl) ?_
                    refine lv_iload S.1 S.2.1 dX11_print_94 (lv_at hl 7 rfl) ?_
                    refine lv_isub S.1 S.2.1 dX11_print_96 ?_
                    refine lv_imul S.1 S.2.1 dX11_print_97 ?_
                    obtain rfl := Option.some.inj hF
                    exact Ju9 _ _ _ ⟨lv_sub hl [0, 1, 2, 3, 4, 5, 6, 7, 9] rfl, hW⟩
                  · have hF := it_neg hc hF
                    refine lv_iload_n S.1 S.2.1 dX11_print_80 rfl (lv_at hl 3 rfl) ?_
                    refine lv_iload S.1 S.2.1 dX11_print_81 (lv_at hl 7 rfl) ?_
                    refine lv_iload S.1 S.2.1 dX11_print_83 (lv_at hl 9 rfl) ?_
                    refine lv_isub S.1 S.2.1 dX11_print_85 ?_
                    refine lv_imul S.1 S.2.1 dX11_print_86 ?_
                    refine lv_goto (tgt := 98) S.1 S.2.1 dX11_print_87 (by decide) ?_
                    obtain rfl := Option.some.inj hF
                    exact Ju9 _ _ _ ⟨lv_sub hl [0, 1, 2, 3, 4, 5, 6, 7, 9] rfl, hW⟩
      · have hF := it_pos hc hF
        refine lv_iconst (v := (-1 : Int32)) S.1 S.2.1 dX11_print_34 (by decide) ?_
        obtain rfl := Option.some.inj hF
        exact rr_i S hr hlk hW rfl rfl dX11_print_35
def fR_mark (σ : SR) (a1 : Int32) (a2 : Int32) (a3 : Int32) : Option (Int32 × SR) :=
  Option.bind (fR_isPair a1 a2) (fun u1 =>
  if u1 = 0 then
  some ((0 : Int32), pz σ 31 ((0 : Int32)))
  else
  Option.bind (fR_in a3 ((-1 : Int32)) ((10 : Int32))) (fun u2 =>
  if u2 = 0 then
  some ((0 : Int32), pz σ 31 ((0 : Int32)))
  else
  if (((20 : Int32) * a1) + a2) < 0 ∨ 180 ≤ ((((20 : Int32) * a1) + a2)).toNatClampNeg then none else
  some ((1 : Int32), pf (pz σ 31 ((0 : Int32))) 29 ((((20 : Int32) * a1) + a2)).toNatClampNeg a3)))
set_option maxRecDepth 100000 in
set_option maxHeartbeats 4000000 in
theorem cR_mark (l : Launch) (D : va_G) (ad : Nat → Nat) (cA : Nat → ClassId) (kk : Nat → Nat) (hd : RD ad) {σ : SR} {a1 : Int32} {a2 : Int32} {a3 : Int32} {o : Int32 × SR} (hF : fR_mark σ a1 a2 a3 = some o) : Mi l yX11_mark cX11_mark 4 .boolean { frames := 2, cells := 0, slots := 0, locals := 43 } [.ref (ad 35), .int a1, .int a2, .int a3] (RP D ad cA kk σ) o.1 (RP D ad cA kk (o.2)) (RA ad) := by
  refine Mi.of (own := RX11) rfl (by decide +kernel) (Nat.le_of_ble_eq_true rfl) ?_
  intro p e s m args below meth c ls S hr hlk hP hl
  have hW := RW.start hd hP
  have hl : lv_has ls 4 [(0, .ref (ad 35)), (1, .int a1), (2, .int a2), (3, .int a3)] := hl
  rw [fR_mark] at hF
  refine lv_aload_n S.1 S.2.1 dX11_mark_0 rfl (lv_at hl 0 rfl) ?_
  refine lv_iconst (v := (0 : Int32)) S.1 S.2.1 dX11_mark_1 (by decide) ?_
  refine rp_thrown S hW dX11_mark_2 (fun H locs hW => ?_)
  refine lv_iload_n S.1 S.2.1 dX11_mark_5 rfl (lv_at hl 1 rfl) ?_
  refine lv_iload_n S.1 S.2.1 dX11_mark_6 rfl (lv_at hl 2 rfl) ?_
  obtain ⟨u1, hu1, hF⟩ := bd_of hF
  refine sc_i (k := 2) (As := [.int a1, .int a2]) (rest := []) (cR_isPair l hu1) S (gd_S m_965 m_966 m_5 m_967) rfl rfl (by decide +kernel) ⟨Nat.le_of_ble_eq_true rfl, Nat.le_of_ble_eq_true rfl⟩ rfl hl.1 rfl (Nat.le_of_ble_eq_true rfl) ⟨Nat.le_of_ble_eq_true rfl, Nat.le_of_ble_eq_true rfl⟩ dX11_mark_7 ?_
  refine lv_if_eq (tgt := 23) S.1 S.2.1 dX11_mark_10 (by decide) (fun hc => ?_) (fun hc => ?_)
  · have hF := it_pos hc hF
    refine lv_iconst (v := (0 : Int32)) S.1 S.2.1 dX11_mark_23 (by decide) ?_
    obtain rfl := Option.some.inj hF
    exact rr_i S hr hlk hW rfl rfl dX11_mark_24
  · have hF := it_neg hc hF
    refine lv_iload_n S.1 S.2.1 dX11_mark_13 rfl (lv_at hl 3 rfl) ?_
    refine lv_iconst (v := (-1 : Int32)) S.1 S.2.1 dX11_mark_14 (by decide) ?_
    refine lv_bipush (v := (10 : Int32)) S.1 S.2.1 dX11_mark_15 (by decide) ?_
    obtain ⟨u2, hu2, hF⟩ := bd_of hF
    refine sc_i (k := 3) (As := [.int a3, .int ((-1 : Int32)), .int ((10 : Int32))]) (rest := []) (cR_in l hu2) S (gd_S m_391 m_392 m_5 m_393) rfl rfl (by decide +kernel) ⟨Nat.le_of_ble_eq_true rfl, Nat.le_of_ble_eq_true rfl⟩ rfl hl.1 rfl (Nat.le_of_ble_eq_true rfl) ⟨Nat.le_of_ble_eq_true rfl, Nat.le_of_ble_eq_true rfl⟩ dX11_mark_17 ?_
    refine lv_if_ne (tgt := 25) S.1 S.2.1 dX11_mark_20 (by decide) (fun hc => ?_) (fun hc => ?_)
    · have hF := it_neg hc hF
      refine lv_aload_n S.1 S.2.1 dX11_mark_25 rfl (lv_at hl 0 rfl) ?_
      refine rg_marks S hW dX11_mark_26 ?_
      refine lv_bipush (v := (20 : Int32)) S.1 S.2.1 dX11_mark_29 (by decide) ?_
      refine lv_iload_n S.1 S.2.1 dX11_mark_31 rfl (lv_at hl 1 rfl) ?_
      refine lv_imul S.1 S.2.1 dX11_mark_32 ?_
      refine lv_iload_n S.1 S.2.1 dX11_mark_33 rfl (lv_at hl 2 rfl) ?_
      refine lv_iadd S.1 S.2.1 dX11_mark_34 ?_
      refine lv_iload_n S.1 S.2.1 dX11_mark_35 rfl (lv_at hl 3 rfl) ?_
      obtain ⟨h3, hF⟩ := gd_of hF
      refine rs_marks S hW h3 dX11_mark_36 (fun H locs hW => ?_)
      refine lv_iconst (v := (1 : Int32)) S.1 S.2.1 dX11_mark_37 (by decide) ?_
      obtain rfl := Option.some.inj hF
      exact rr_i S hr hlk hW rfl rfl dX11_mark_38
    · have hF := it_pos hc hF
      refine lv_iconst (v := (0 : Int32)) S.1 S.2.1 dX11_mark_23 (by decide) ?_
      obtain rfl := Option.some.inj hF
      exact rr_i S hr hlk hW rfl rfl dX11_mark_24
def fR_kin (σ : SR) (a1 : Int32) (a2 : Int32) (a3 : Int32) : Option (Int32 × SR) :=
  Option.bind (fR_isPair a1 a2) (fun u1 =>
  if u1 = 0 then
  some ((0 : Int32), pz σ 31 ((0 : Int32)))
  else
  if (((20 : Int32) * a1) + a2) < 0 ∨ 180 ≤ ((((20 : Int32) * a1) + a2)).toNatClampNeg then none else
  some ((1 : Int32), pf (pz σ 31 ((0 : Int32))) 30 ((((20 : Int32) * a1) + a2)).toNatClampNeg ((vp_nar .boolean a3))))
set_option maxRecDepth 100000 in
set_option maxHeartbeats 4000000 in
theorem cR_kin (l : Launch) (D : va_G) (ad : Nat → Nat) (cA : Nat → ClassId) (kk : Nat → Nat) (hd : RD ad) {σ : SR} {a1 : Int32} {a2 : Int32} {a3 : Int32} {o : Int32 × SR} (hF : fR_kin σ a1 a2 a3 = some o) : Mi l yX11_kin cX11_kin 4 .boolean { frames := 2, cells := 0, slots := 0, locals := 43 } [.ref (ad 35), .int a1, .int a2, .int a3] (RP D ad cA kk σ) o.1 (RP D ad cA kk (o.2)) (RA ad) := by
  refine Mi.of (own := RX11) rfl (by decide +kernel) (Nat.le_of_ble_eq_true rfl) ?_
  intro p e s m args below meth c ls S hr hlk hP hl
  have hW := RW.start hd hP
  have hl : lv_has ls 4 [(0, .ref (ad 35)), (1, .int a1), (2, .int a2), (3, .int a3)] := hl
  rw [fR_kin] at hF
  refine lv_aload_n S.1 S.2.1 dX11_kin_0 rfl (lv_at hl 0 rfl) ?_
  refine lv_iconst (v := (0 : Int32)) S.1 S.2.1 dX11_kin_1 (by decide) ?_
  refine rp_thrown S hW dX11_kin_2 (fun H locs hW => ?_)
  refine lv_iload_n S.1 S.2.1 dX11_kin_5 rfl (lv_at hl 1 rfl) ?_
  refine lv_iload_n S.1 S.2.1 dX11_kin_6 rfl (lv_at hl 2 rfl) ?_
  obtain ⟨u1, hu1, hF⟩ := bd_of hF
  refine sc_i (k := 2) (As := [.int a1, .int a2]) (rest := []) (cR_isPair l hu1) S (gd_S m_965 m_966 m_5 m_967) rfl rfl (by decide +kernel) ⟨Nat.le_of_ble_eq_true rfl, Nat.le_of_ble_eq_true rfl⟩ rfl hl.1 rfl (Nat.le_of_ble_eq_true rfl) ⟨Nat.le_of_ble_eq_true rfl, Nat.le_of_ble_eq_true rfl⟩ dX11_kin_7 ?_
  refine lv_if_ne (tgt := 15) S.1 S.2.1 dX11_kin_10 (by decide) (fun hc => ?_) (fun hc => ?_)
  · have hF := it_neg hc hF
    refine lv_aload_n S.1 S.2.1 dX11_kin_15 rfl (lv_at hl 0 rfl) ?_
    refine rg_isKin S hW dX11_kin_16 ?_
    refine lv_bipush (v := (20 : Int32)) S.1 S.2.1 dX11_kin_19 (by decide) ?_
    refine lv_iload_n S.1 S.2.1 dX11_kin_21 rfl (lv_at hl 1 rfl) ?_
    refine lv_imul S.1 S.2.1 dX11_kin_22 ?_
    refine lv_iload_n S.1 S.2.1 dX11_kin_23 rfl (lv_at hl 2 rfl) ?_
    refine lv_iadd S.1 S.2.1 dX11_kin_24 ?_
    refine lv_iload_n S.1 S.2.1 dX11_kin_25 rfl (lv_at hl 3 rfl) ?_
    obtain ⟨h2, hF⟩ := gd_of hF
    refine rs_isKin (y := (vp_nar .boolean a3)) S hW h2 rfl dX11_kin_26 (fun H locs hW => ?_)
    refine lv_iconst (v := (1 : Int32)) S.1 S.2.1 dX11_kin_27 (by decide) ?_
    obtain rfl := Option.some.inj hF
    exact rr_i S hr hlk hW rfl rfl dX11_kin_28
  · have hF := it_pos hc hF
    refine lv_iconst (v := (0 : Int32)) S.1 S.2.1 dX11_kin_13 (by decide) ?_
    obtain rfl := Option.some.inj hF
    exact rr_i S hr hlk hW rfl rfl dX11_kin_14
def fR_marked_L6 (σ : SR) (l1 : Int32) (l2 : Int32) (l3 : Int32) : Nat → Int32 → Int32 → Option (Int32)
  | 0, _, _ => none
  | n + 1, x4, x5 =>
    if (9 : Int32) ≤ x5 then
    some ((x4))
    else
    if (((20 : Int32) * x5) + l1) < 0 ∨ 180 ≤ ((((20 : Int32) * x5) + l1)).toNatClampNeg then none else
    Option.bind (if (gf σ 30 ((((20 : Int32) * x5) + l1)).toNatClampNeg) = 0 then
    if (gf σ 29 ((((20 : Int32) * x5) + l1)).toNatClampNeg) = (-1 : Int32) then
    some (x4)
    else
    Option.bind (fR_in ((gf σ 29 ((((20 : Int32) * x5) + l1)).toNatClampNeg)) l2 l3) (fun u3 =>
    if u3 = 0 then
    some (x4)
    else
    some ((x4 + (1 : Int32))))
    else
    some (x4)) (fun u2 =>
    fR_marked_L6 σ l1 l2 l3 n u2 ((x5 + (1 : Int32))))
def fR_marked (σ : SR) (a1 : Int32) (a2 : Int32) (a3 : Int32) : Option (Int32) :=
  Option.bind (fR_marked_L6 σ a1 a2 a3 1000 ((0 : Int32)) ((0 : Int32))) (fun u1 =>
  some u1)
set_option maxRecDepth 100000 in
set_option maxHeartbeats 4000000 in
theorem cR_marked (l : Launch) (D : va_G) (ad : Nat → Nat) (cA : Nat → ClassId) (kk : Nat → Nat) (hd : RD ad) {σ : SR} {a1 : Int32} {a2 : Int32} {a3 : Int32} {o : Int32} (hF : fR_marked σ a1 a2 a3 = some o) : Mi l yX11_marked cX11_marked 6 .int { frames := 1, cells := 0, slots := 0, locals := 22 } [.ref (ad 35), .int a1, .int a2, .int a3] (RP D ad cA kk σ) o (RP D ad cA kk σ) (RA ad) := by
  refine Mi.of (own := RX11) rfl (by decide +kernel) (Nat.le_of_ble_eq_true rfl) ?_
  intro p e s m args below meth c ls S hr hlk hP hl
  have hW := RW.start hd hP
  have hl : lv_has ls 6 [(0, .ref (ad 35)), (1, .int a1), (2, .int a2), (3, .int a3)] := hl
  rw [fR_marked] at hF
  refine lv_iconst (v := (0 : Int32)) S.1 S.2.1 dX11_marked_0 (by decide) ?_
  refine lv_istore (lv' := [(4, .int ((0 : Int32))), (0, .ref (ad 35)), (1, .int a1), (2, .int a2), (3, .int a3)]) S.1 S.2.1 dX11_marked_1 hl (by decide) rfl (fun ls hl => ?_)
  refine lv_iconst (v := (0 : Int32)) S.1 S.2.1 dX11_marked_3 (by decide) ?_
  refine lv_istore (lv' := [(5, .int ((0 : Int32))), (4, .int ((0 : Int32))), (0, .ref (ad 35)), (1, .int a1), (2, .int a2), (3, .int a3)]) S.1 S.2.1 dX11_marked_4 hl (by decide) rfl (fun ls hl => ?_)
  obtain ⟨u1, hX, hF⟩ := bd_of hF
  refine jn1 (fun H locs ls => lv_has ls 6 [(4, .int u1)] ∧ RW D ad cA kk σ s (RA ad) H locs) 73 [] (fun H locs ls hJ => ?_) (fun Ju1 => ?_)
  · obtain ⟨hl, hW⟩ := hJ
    refine lv_iload S.1 S.2.1 dX11_marked_73 (lv_at hl 0 rfl) ?_
    obtain rfl := Option.some.inj hF
    exact rr_i S hr hlk hW rfl rfl dX11_marked_75
  · refine lpW (fun (xu1 : Int32 × Int32) H locs ls => lv_has ls 6 [(0, .ref (ad 35)), (1, .int a1), (2, .int a2), (3, .int a3), (4, .int xu1.1), (5, .int xu1.2)] ∧ RW D ad cA kk σ s (RA ad) H locs) 6 (fun n xu1 => fR_marked_L6 σ a1 a2 a3 n xu1.1 xu1.2) u1 (fun _ => rfl) (fun n xu1 ihu1 hF H locs ls hJ => ?_) 1000 ((0 : Int32), (0 : Int32)) hX _ _ _ ⟨lv_sub hl [2, 3, 4, 5, 1, 0] rfl, hW⟩
    obtain ⟨hl, hW⟩ := hJ
    have hF : fR_marked_L6 σ a1 a2 a3 (n + 1) xu1.1 xu1.2 = some u1 := hF
    rw [fR_marked_L6] at hF
    refine lv_iload S.1 S.2.1 dX11_marked_6 (lv_at hl 5 rfl) ?_
    refine lv_bipush (v := (9 : Int32)) S.1 S.2.1 dX11_marked_8 (by decide) ?_
    refine lv_icmp_ge (tgt := 73) S.1 S.2.1 dX11_marked_10 (by decide) (fun hc => ?_) (fun hc => ?_)
    · have hF := it_pos hc hF
      obtain rfl := Option.some.inj hF
      exact Ju1 _ _ _ ⟨lv_sub hl [4] rfl, hW⟩
    · have hF := it_neg hc hF
      refine lv_aload_n S.1 S.2.1 dX11_marked_13 rfl (lv_at hl 0 rfl) ?_
      refine rg_isKin S hW dX11_marked_14 ?_
      refine lv_bipush (v := (20 : Int32)) S.1 S.2.1 dX11_marked_17 (by decide) ?_
      refine lv_iload S.1 S.2.1 dX11_marked_19 (lv_at hl 5 rfl) ?_
      refine lv_imul S.1 S.2.1 dX11_marked_21 ?_
      refine lv_iload_n S.1 S.2.1 dX11_marked_22 rfl (lv_at hl 1 rfl) ?_
      refine lv_iadd S.1 S.2.1 dX11_marked_23 ?_
      obtain ⟨h3, hF⟩ := gd_of hF
      refine rl_isKin S hW h3 dX11_marked_24 ?_
      obtain ⟨u4, hX, hF⟩ := bd_of hF
      refine jn1 (fun H locs ls => lv_has ls 6 [(0, .ref (ad 35)), (1, .int a1), (2, .int a2), (3, .int a3), (4, .int u4), (5, .int xu1.2)] ∧ RW D ad cA kk σ s (RA ad) H locs) 67 [] (fun H locs ls hJ => ?_) (fun Ju4 => ?_)
      · obtain ⟨hl, hW⟩ := hJ
        refine lv_iinc (v := (xu1.2 + (1 : Int32))) (lv' := [(5, .int ((xu1.2 + (1 : Int32)))), (0, .ref (ad 35)), (1, .int a1), (2, .int a2), (3, .int a3), (4, .int u4)]) S.1 S.2.1 dX11_marked_67 hl (k := 5) rfl rfl (by decide) rfl (fun ls hl => ?_)
        refine lv_goto (tgt := 6) S.1 S.2.1 dX11_marked_70 (by decide) ?_
        exact ihu1 (u4, (xu1.2 + (1 : Int32))) hF _ _ _ ⟨lv_sub hl [1, 2, 3, 4, 5, 0] rfl, hW⟩
      · have hF := hX
        refine lv_if_ne (tgt := 67) S.1 S.2.1 dX11_marked_25 (by decide) (fun hc => ?_) (fun hc => ?_)
        · have hF := it_neg hc hF
          obtain rfl := Option.some.inj hF
          exact Ju4 _ _ _ ⟨lv_sub hl [0, 1, 2, 3, 4, 5] rfl, hW⟩
        · have hF := it_pos hc hF
          refine lv_aload_n S.1 S.2.1 dX11_marked_28 rfl (lv_at hl 0 rfl) ?_
          refine rg_marks S hW dX11_marked_29 ?_
          refine lv_bipush (v := (20 : Int32)) S.1 S.2.1 dX11_marked_32 (by decide) ?_
          refine lv_iload S.1 S.2.1 dX11_marked_34 (lv_at hl 5 rfl) ?_
          refine lv_imul S.1 S.2.1 dX11_marked_36 ?_
          refine lv_iload_n S.1 S.2.1 dX11_marked_37 rfl (lv_at hl 1 rfl) ?_
          refine lv_iadd S.1 S.2.1 dX11_marked_38 ?_
          refine rl_marks S hW h3 dX11_marked_39 ?_
          refine lv_iconst (v := (-1 : Int32)) S.1 S.2.1 dX11_marked_40 (by decide) ?_
          refine lv_icmp_eq (tgt := 67) S.1 S.2.1 dX11_marked_41 (by decide) (fun hc => ?_) (fun hc => ?_)
          · have hF := it_pos hc hF
            obtain rfl := Option.some.inj hF
            exact Ju4 _ _ _ ⟨lv_sub hl [0, 1, 2, 3, 4, 5] rfl, hW⟩
          · have hF := it_neg hc hF
            refine lv_aload_n S.1 S.2.1 dX11_marked_44 rfl (lv_at hl 0 rfl) ?_
            refine rg_marks S hW dX11_marked_45 ?_
            refine lv_bipush (v := (20 : Int32)) S.1 S.2.1 dX11_marked_48 (by decide) ?_
            refine lv_iload S.1 S.2.1 dX11_marked_50 (lv_at hl 5 rfl) ?_
            refine lv_imul S.1 S.2.1 dX11_marked_52 ?_
            refine lv_iload_n S.1 S.2.1 dX11_marked_53 rfl (lv_at hl 1 rfl) ?_
            refine lv_iadd S.1 S.2.1 dX11_marked_54 ?_
            refine rl_marks S hW h3 dX11_marked_55 ?_
            refine lv_iload_n S.1 S.2.1 dX11_marked_56 rfl (lv_at hl 2 rfl) ?_
            refine lv_iload_n S.1 S.2.1 dX11_marked_57 rfl (lv_at hl 3 rfl) ?_
            obtain ⟨u5, hu5, hF⟩ := bd_of hF
            refine sc_i (k := 3) (As := [.int ((gf σ 29 ((((20 : Int32) * xu1.2) + a1)).toNatClampNeg)), .int a2, .int a3]) (rest := []) (cR_in l hu5) S (gd_S m_391 m_392 m_5 m_393) rfl rfl (by decide +kernel) ⟨Nat.le_of_ble_eq_true rfl, Nat.le_of_ble_eq_true rfl⟩ rfl hl.1 rfl (Nat.le_of_ble_eq_true rfl) ⟨Nat.le_of_ble_eq_true rfl, Nat.le_of_ble_eq_true rfl⟩ dX11_marked_58 ?_
            refine lv_if_eq (tgt := 67) S.1 S.2.1 dX11_marked_61 (by decide) (fun hc => ?_) (fun hc => ?_)
            · have hF := it_pos hc hF
              obtain rfl := Option.some.inj hF
              exact Ju4 _ _ _ ⟨lv_sub hl [0, 1, 2, 3, 4, 5] rfl, hW⟩
            · have hF := it_neg hc hF
              refine lv_iinc (v := (xu1.1 + (1 : Int32))) (lv' := [(4, .int ((xu1.1 + (1 : Int32)))), (0, .ref (ad 35)), (1, .int a1), (2, .int a2), (3, .int a3), (5, .int xu1.2)]) S.1 S.2.1 dX11_marked_64 hl (k := 4) rfl rfl (by decide) rfl (fun ls hl => ?_)
              obtain rfl := Option.some.inj hF
              exact Ju4 _ _ _ ⟨lv_sub hl [1, 2, 3, 4, 0, 5] rfl, hW⟩
def fR_feed (σ : SR) (a1 : Int32) (a2 : Int32) (a3 : Int32) (a4 : Int32) (a5 : Int32) : Option (Int32 × SR) :=
  if ((gz (pz σ 31 ((0 : Int32))) 1) + (20 : Int32)) ≤ (200 : Int32) then
  Option.bind (fR_lay (pz σ 31 ((0 : Int32))) a1) (fun u1 =>
  Option.bind (fR_lay u1 a2) (fun u2 =>
  Option.bind (fR_lay u2 a3) (fun u3 =>
  Option.bind (fR_lay u3 a4) (fun u4 =>
  Option.bind (fR_lay u4 a5) (fun u5 =>
  some ((gz u5 1), u5))))))
  else
  some ((-1 : Int32), pz σ 31 ((0 : Int32)))
set_option maxRecDepth 100000 in
set_option maxHeartbeats 4000000 in
theorem cR_feed (l : Launch) (D : va_G) (ad : Nat → Nat) (cA : Nat → ClassId) (kk : Nat → Nat) (hd : RD ad) {σ : SR} {a1 : Int32} {a2 : Int32} {a3 : Int32} {a4 : Int32} {a5 : Int32} {o : Int32 × SR} (hF : fR_feed σ a1 a2 a3 a4 a5 = some o) : Mi l yX11_feed cX11_feed 6 .int { frames := 1, cells := 0, slots := 0, locals := 22 } [.ref (ad 35), .int a1, .int a2, .int a3, .int a4, .int a5] (RP D ad cA kk σ) o.1 (RP D ad cA kk (o.2)) (RA ad) := by
  refine Mi.of (own := RX11) rfl (by decide +kernel) (Nat.le_of_ble_eq_true rfl) ?_
  intro p e s m args below meth c ls S hr hlk hP hl
  have hW := RW.start hd hP
  have hl : lv_has ls 6 [(0, .ref (ad 35)), (1, .int a1), (2, .int a2), (3, .int a3), (4, .int a4), (5, .int a5)] := hl
  rw [fR_feed] at hF
  refine lv_aload_n S.1 S.2.1 dX11_feed_0 rfl (lv_at hl 0 rfl) ?_
  refine lv_iconst (v := (0 : Int32)) S.1 S.2.1 dX11_feed_1 (by decide) ?_
  refine rp_thrown S hW dX11_feed_2 (fun H locs hW => ?_)
  refine lv_aload_n S.1 S.2.1 dX11_feed_5 rfl (lv_at hl 0 rfl) ?_
  refine rg_taped S hW dX11_feed_6 ?_
  refine lv_bipush (v := (20 : Int32)) S.1 S.2.1 dX11_feed_9 (by decide) ?_
  refine lv_iadd S.1 S.2.1 dX11_feed_11 ?_
  refine lv_sipush (v := (200 : Int32)) S.1 S.2.1 dX11_feed_12 (by decide) ?_
  refine lv_icmp_le (tgt := 20) S.1 S.2.1 dX11_feed_15 (by decide) (fun hc => ?_) (fun hc => ?_)
  · have hF := it_pos hc hF
    refine lv_aload_n S.1 S.2.1 dX11_feed_20 rfl (lv_at hl 0 rfl) ?_
    refine lv_iload_n S.1 S.2.1 dX11_feed_21 rfl (lv_at hl 1 rfl) ?_
    obtain ⟨u1, hu1, hF⟩ := bd_of hF
    refine rc_v (k := 1) (As := [.int a1]) (rest := []) (cR_lay l D ad cA kk hd hu1) hd (fun _ h => h) S hW (gd_V m_230 m_231 m_232 m_5 m_233) (by decide +kernel) ⟨Nat.le_of_ble_eq_true rfl, Nat.le_of_ble_eq_true rfl⟩ rfl hl.1 rfl (Nat.le_of_ble_eq_true rfl) ⟨Nat.le_of_ble_eq_true rfl, Nat.le_of_ble_eq_true rfl⟩ dX11_feed_22 (fun H locs hW => ?_)
    refine lv_aload_n S.1 S.2.1 dX11_feed_25 rfl (lv_at hl 0 rfl) ?_
    refine lv_iload_n S.1 S.2.1 dX11_feed_26 rfl (lv_at hl 2 rfl) ?_
    obtain ⟨u2, hu2, hF⟩ := bd_of hF
    refine rc_v (k := 1) (As := [.int a2]) (rest := []) (cR_lay l D ad cA kk hd hu2) hd (fun _ h => h) S hW (gd_V m_230 m_231 m_232 m_5 m_233) (by decide +kernel) ⟨Nat.le_of_ble_eq_true rfl, Nat.le_of_ble_eq_true rfl⟩ rfl hl.1 rfl (Nat.le_of_ble_eq_true rfl) ⟨Nat.le_of_ble_eq_true rfl, Nat.le_of_ble_eq_true rfl⟩ dX11_feed_27 (fun H locs hW => ?_)
    refine lv_aload_n S.1 S.2.1 dX11_feed_30 rfl (lv_at hl 0 rfl) ?_
    refine lv_iload_n S.1 S.2.1 dX11_feed_31 rfl (lv_at hl 3 rfl) ?_
    obtain ⟨u3, hu3, hF⟩ := bd_of hF
    refine rc_v (k := 1) (As := [.int a3]) (rest := []) (cR_lay l D ad cA kk hd hu3) hd (fun _ h => h) S hW (gd_V m_230 m_231 m_232 m_5 m_233) (by decide +kernel) ⟨Nat.le_of_ble_eq_true rfl, Nat.le_of_ble_eq_true rfl⟩ rfl hl.1 rfl (Nat.le_of_ble_eq_true rfl) ⟨Nat.le_of_ble_eq_true rfl, Nat.le_of_ble_eq_true rfl⟩ dX11_feed_32 (fun H locs hW => ?_)
    refine lv_aload_n S.1 S.2.1 dX11_feed_35 rfl (lv_at hl 0 rfl) ?_
    refine lv_iload S.1 S.2.1 dX11_feed_36 (lv_at hl 4 rfl) ?_
    obtain ⟨u4, hu4, hF⟩ := bd_of hF
    refine rc_v (k := 1) (As := [.int a4]) (rest := []) (cR_lay l D ad cA kk hd hu4) hd (fun _ h => h) S hW (gd_V m_230 m_231 m_232 m_5 m_233) (by decide +kernel) ⟨Nat.le_of_ble_eq_true rfl, Nat.le_of_ble_eq_true rfl⟩ rfl hl.1 rfl (Nat.le_of_ble_eq_true rfl) ⟨Nat.le_of_ble_eq_true rfl, Nat.le_of_ble_eq_true rfl⟩ dX11_feed_38 (fun H locs hW => ?_)
    refine lv_aload_n S.1 S.2.1 dX11_feed_41 rfl (lv_at hl 0 rfl) ?_
    refine lv_iload S.1 S.2.1 dX11_feed_42 (lv_at hl 5 rfl) ?_
    obtain ⟨u5, hu5, hF⟩ := bd_of hF
    refine rc_v (k := 1) (As := [.int a5]) (rest := []) (cR_lay l D ad cA kk hd hu5) hd (fun _ h => h) S hW (gd_V m_230 m_231 m_232 m_5 m_233) (by decide +kernel) ⟨Nat.le_of_ble_eq_true rfl, Nat.le_of_ble_eq_true rfl⟩ rfl hl.1 rfl (Nat.le_of_ble_eq_true rfl) ⟨Nat.le_of_ble_eq_true rfl, Nat.le_of_ble_eq_true rfl⟩ dX11_feed_44 (fun H locs hW => ?_)
    refine lv_aload_n S.1 S.2.1 dX11_feed_47 rfl (lv_at hl 0 rfl) ?_
    refine rg_taped S hW dX11_feed_48 ?_
    obtain rfl := Option.some.inj hF
    exact rr_i S hr hlk hW rfl rfl dX11_feed_51
  · have hF := it_neg hc hF
    refine lv_iconst (v := (-1 : Int32)) S.1 S.2.1 dX11_feed_18 (by decide) ?_
    obtain rfl := Option.some.inj hF
    exact rr_i S hr hlk hW rfl rfl dX11_feed_19
def fR_blanks_L0 : Nat → SR → Option (SR)
  | 0, _ => none
  | n + 1, σ =>
    Option.bind (fR_here σ) (fun u1 =>
    if u1 = (32 : Int32) then
    fR_blanks_L0 n (pz σ 32 (((gz σ 32) + (1 : Int32))))
    else
    some ((σ)))
def fR_blanks (σ : SR) : Option (SR) :=
  Option.bind (fR_blanks_L0 1000 σ) (fun u1 =>
  some u1)
set_option maxRecDepth 100000 in
set_option maxHeartbeats 4000000 in
theorem cR_blanks (l : Launch) (D : va_G) (ad : Nat → Nat) (cA : Nat → ClassId) (kk : Nat → Nat) (hd : RD ad) {σ : SR} {o : SR} (hF : fR_blanks σ = some o) : Mv l yX11_blanks cX11_blanks 1 { frames := 1, cells := 0, slots := 0, locals := 20 } [.ref (ad 35)] (RP D ad cA kk σ) (RP D ad cA kk o) (RA ad) := by
  refine Mv.of (own := RX11) rfl (by decide +kernel) (Nat.le_of_ble_eq_true rfl) ?_
  intro p e s m args below meth c ls S hr hlk hP hl _
  have hW := RW.start hd hP
  have hl : lv_has ls 1 [(0, .ref (ad 35))] := hl
  rw [fR_blanks] at hF
  obtain ⟨u1, hX, hF⟩ := bd_of hF
  refine jn1 (fun H locs ls => lv_has ls 1 [] ∧ RW D ad cA kk u1 s (RA ad) H locs) 22 [] (fun H locs ls hJ => ?_) (fun Ju1 => ?_)
  · obtain ⟨hl, hW⟩ := hJ
    obtain rfl := Option.some.inj hF
    exact rr_v S hr hlk hW dX11_blanks_22
  · refine lpW (fun (xu1 : SR) H locs ls => lv_has ls 1 [(0, .ref (ad 35))] ∧ RW D ad cA kk xu1 s (RA ad) H locs) 0 (fun n xu1 => fR_blanks_L0 n xu1) u1 (fun _ => rfl) (fun n xu1 ihu1 hF H locs ls hJ => ?_) 1000 (σ) hX _ _ _ ⟨lv_sub hl [0] rfl, hW⟩
    obtain ⟨hl, hW⟩ := hJ
    have hF : fR_blanks_L0 (n + 1) xu1 = some u1 := hF
    rw [fR_blanks_L0] at hF
    refine lv_aload_n S.1 S.2.1 dX11_blanks_0 rfl (lv_at hl 0 rfl) ?_
    obtain ⟨u3, hu3, hF⟩ := bd_of hF
    refine rc_i (k := 0) (As := []) (rest := []) (cR_here l D ad cA kk hd hu3) hd (fun _ h => h) S hW (gd_V m_387 m_388 m_389 m_5 m_390) (by decide +kernel) ⟨Nat.le_of_ble_eq_true rfl, Nat.le_of_ble_eq_true rfl⟩ rfl hl.1 rfl (Nat.le_of_ble_eq_true rfl) ⟨Nat.le_of_ble_eq_true rfl, Nat.le_of_ble_eq_true rfl⟩ dX11_blanks_1 (fun H locs hW => ?_)
    refine lv_bipush (v := (32 : Int32)) S.1 S.2.1 dX11_blanks_4 (by decide) ?_
    refine lv_icmp_ne (tgt := 22) S.1 S.2.1 dX11_blanks_6 (by decide) (fun hc => ?_) (fun hc => ?_)
    · have hF := it_neg hc hF
      obtain rfl := Option.some.inj hF
      exact Ju1 _ _ _ ⟨lv_sub hl [] rfl, hW⟩
    · have hF := it_pos hc hF
      refine lv_aload_n S.1 S.2.1 dX11_blanks_9 rfl (lv_at hl 0 rfl) ?_
      refine lv_dup S.1 S.2.1 dX11_blanks_10 rfl ?_
      refine rg_at S hW dX11_blanks_11 ?_
      refine lv_iconst (v := (1 : Int32)) S.1 S.2.1 dX11_blanks_14 (by decide) ?_
      refine lv_iadd S.1 S.2.1 dX11_blanks_15 ?_
      refine rp_at S hW dX11_blanks_16 (fun H locs hW => ?_)
      refine lv_goto (tgt := 0) S.1 S.2.1 dX11_blanks_19 (by decide) ?_
      exact ihu1 (pz xu1 32 (((gz xu1 32) + (1 : Int32)))) hF _ _ _ ⟨lv_sub hl [0] rfl, hW⟩
def fR_rule (σ : SR) (a1 : Int32) (a2 : Int32) : Option (Int32 × SR) :=
  Option.bind (fR_in a1 ((0 : Int32)) ((7 : Int32))) (fun u1 =>
  if u1 = 0 then
  some ((-1 : Int32), pz σ 31 ((0 : Int32)))
  else
  Option.bind (fR_in a2 ((0 : Int32)) ((60 : Int32))) (fun u2 =>
  if u2 = 0 then
  some ((-1 : Int32), pz σ 31 ((0 : Int32)))
  else
  Option.bind (fR_ruleOf (pz σ 31 ((0 : Int32))) a1 a2) (fun u3 =>
  some (u3, pz σ 31 ((0 : Int32))))))
set_option maxRecDepth 100000 in
set_option maxHeartbeats 4000000 in
theorem cR_rule (l : Launch) (D : va_G) (ad : Nat → Nat) (cA : Nat → ClassId) (kk : Nat → Nat) (hd : RD ad) {σ : SR} {a1 : Int32} {a2 : Int32} {o : Int32 × SR} (hF : fR_rule σ a1 a2 = some o) : Mi l yX11_rule cX11_rule 3 .int { frames := 1, cells := 0, slots := 0, locals := 24 } [.ref (ad 35), .int a1, .int a2] (RP D ad cA kk σ) o.1 (RP D ad cA kk (o.2)) (RA ad) := by
  refine Mi.of (own := RX11) rfl (by decide +kernel) (Nat.le_of_ble_eq_true rfl) ?_
  intro p e s m args below meth c ls S hr hlk hP hl
  have hW := RW.start hd hP
  have hl : lv_has ls 3 [(0, .ref (ad 35)), (1, .int a1), (2, .int a2)] := hl
  rw [fR_rule] at hF
  refine lv_aload_n S.1 S.2.1 dX11_rule_0 rfl (lv_at hl 0 rfl) ?_
  refine lv_iconst (v := (0 : Int32)) S.1 S.2.1 dX11_rule_1 (by decide) ?_
  refine rp_thrown S hW dX11_rule_2 (fun H locs hW => ?_)
  refine lv_iload_n S.1 S.2.1 dX11_rule_5 rfl (lv_at hl 1 rfl) ?_
  refine lv_iconst (v := (0 : Int32)) S.1 S.2.1 dX11_rule_6 (by decide) ?_
  refine lv_bipush (v := (7 : Int32)) S.1 S.2.1 dX11_rule_7 (by decide) ?_
  obtain ⟨u1, hu1, hF⟩ := bd_of hF
  refine sc_i (k := 3) (As := [.int a1, .int ((0 : Int32)), .int ((7 : Int32))]) (rest := []) (cR_in l hu1) S (gd_S m_391 m_392 m_5 m_393) rfl rfl (by decide +kernel) ⟨Nat.le_of_ble_eq_true rfl, Nat.le_of_ble_eq_true rfl⟩ rfl hl.1 rfl (Nat.le_of_ble_eq_true rfl) ⟨Nat.le_of_ble_eq_true rfl, Nat.le_of_ble_eq_true rfl⟩ dX11_rule_9 ?_
  refine lv_if_eq (tgt := 34) S.1 S.2.1 dX11_rule_12 (by decide) (fun hc => ?_) (fun hc => ?_)
  · have hF := it_pos hc hF
    refine lv_iconst (v := (-1 : Int32)) S.1 S.2.1 dX11_rule_34 (by decide) ?_
    obtain rfl := Option.some.inj hF
    exact rr_i S hr hlk hW rfl rfl dX11_rule_35
  · have hF := it_neg hc hF
    refine lv_iload_n S.1 S.2.1 dX11_rule_15 rfl (lv_at hl 2 rfl) ?_
    refine lv_iconst (v := (0 : Int32)) S.1 S.2.1 dX11_rule_16 (by decide) ?_
    refine lv_bipush (v := (60 : Int32)) S.1 S.2.1 dX11_rule_17 (by decide) ?_
    obtain ⟨u2, hu2, hF⟩ := bd_of hF
    refine sc_i (k := 3) (As := [.int a2, .int ((0 : Int32)), .int ((60 : Int32))]) (rest := []) (cR_in l hu2) S (gd_S m_391 m_392 m_5 m_393) rfl rfl (by decide +kernel) ⟨Nat.le_of_ble_eq_true rfl, Nat.le_of_ble_eq_true rfl⟩ rfl hl.1 rfl (Nat.le_of_ble_eq_true rfl) ⟨Nat.le_of_ble_eq_true rfl, Nat.le_of_ble_eq_true rfl⟩ dX11_rule_19 ?_
    refine lv_if_eq (tgt := 34) S.1 S.2.1 dX11_rule_22 (by decide) (fun hc => ?_) (fun hc => ?_)
    · have hF := it_pos hc hF
      refine lv_iconst (v := (-1 : Int32)) S.1 S.2.1 dX11_rule_34 (by decide) ?_
      obtain rfl := Option.some.inj hF
      exact rr_i S hr hlk hW rfl rfl dX11_rule_35
    · have hF := it_neg hc hF
      refine lv_aload_n S.1 S.2.1 dX11_rule_25 rfl (lv_at hl 0 rfl) ?_
      refine lv_iload_n S.1 S.2.1 dX11_rule_26 rfl (lv_at hl 1 rfl) ?_
      refine lv_iload_n S.1 S.2.1 dX11_rule_27 rfl (lv_at hl 2 rfl) ?_
      obtain ⟨u3, hu3, hF⟩ := bd_of hF
      refine rc_i (k := 2) (As := [.int a1, .int a2]) (rest := []) (cR_ruleOf l D ad cA kk hd hu3) hd (fun _ h => h) S hW (gd_V m_483 m_484 m_485 m_5 m_486) (by decide +kernel) ⟨Nat.le_of_ble_eq_true rfl, Nat.le_of_ble_eq_true rfl⟩ rfl hl.1 rfl (Nat.le_of_ble_eq_true rfl) ⟨Nat.le_of_ble_eq_true rfl, Nat.le_of_ble_eq_true rfl⟩ dX11_rule_28 (fun H locs hW => ?_)
      refine lv_goto (tgt := 35) S.1 S.2.1 dX11_rule_31 (by decide) ?_
      obtain rfl := Option.some.inj hF
      exact rr_i S hr hlk hW rfl rfl dX11_rule_35
def fR_join (σ : SR) (a1 : Int32) (a2 : Int32) : Option (Int32 × SR) :=
  Option.bind (fR_in a1 ((0 : Int32)) ((3 : Int32))) (fun u1 =>
  if u1 = 0 then
  some ((-1 : Int32), pz σ 31 ((0 : Int32)))
  else
  Option.bind (fR_in a2 ((0 : Int32)) ((9 : Int32))) (fun u2 =>
  if u2 = 0 then
  some ((-1 : Int32), pz σ 31 ((0 : Int32)))
  else
  if (gz (pz σ 31 ((0 : Int32))) 19) = (40 : Int32) then
  some ((-1 : Int32), pz σ 31 ((0 : Int32)))
  else
  Option.bind (fR_ruleOf (pz σ 31 ((0 : Int32))) ((3 : Int32)) ((gz (pz σ 31 ((0 : Int32))) 20))) (fun u3 =>
  Option.bind (if u3 ≤ 0 then
  some ((0 : Int32))
  else
  if a2 < 0 ∨ 10 ≤ (a2).toNatClampNeg then none else
  if (gf (pz σ 31 ((0 : Int32))) 9 (a2).toNatClampNeg) = 0 then
  some ((1 : Int32))
  else
  some ((0 : Int32))) (fun u4 =>
  if u4 = 0 then
  if (gz (pz σ 31 ((0 : Int32))) 19) < 0 ∨ 40 ≤ ((gz (pz σ 31 ((0 : Int32))) 19)).toNatClampNeg then none else
  Option.bind (if u4 = 0 then
  some (pz (pf (pf (pf (pf (pf (pf (pf (pf (pf (pz σ 31 ((0 : Int32))) 10 ((gz (pz σ 31 ((0 : Int32))) 19)).toNatClampNeg a1) 11 ((gz (pz σ 31 ((0 : Int32))) 19)).toNatClampNeg a2) 12 ((gz (pz σ 31 ((0 : Int32))) 19)).toNatClampNeg ((0 : Int32))) 13 ((gz (pz σ 31 ((0 : Int32))) 19)).toNatClampNeg ((0 : Int32))) 14 ((gz (pz σ 31 ((0 : Int32))) 19)).toNatClampNeg ((0 : Int32))) 15 ((gz (pz σ 31 ((0 : Int32))) 19)).toNatClampNeg ((0 : Int32))) 16 ((gz (pz σ 31 ((0 : Int32))) 19)).toNatClampNeg ((0 : Int32))) 17 ((gz (pz σ 31 ((0 : Int32))) 19)).toNatClampNeg ((0 : Int32))) 18 ((gz (pz σ 31 ((0 : Int32))) 19)).toNatClampNeg ((0 : Int32))) 19 (((gz (pf (pf (pf (pf (pf (pf (pf (pf (pf (pz σ 31 ((0 : Int32))) 10 ((gz (pz σ 31 ((0 : Int32))) 19)).toNatClampNeg a1) 11 ((gz (pz σ 31 ((0 : Int32))) 19)).toNatClampNeg a2) 12 ((gz (pz σ 31 ((0 : Int32))) 19)).toNatClampNeg ((0 : Int32))) 13 ((gz (pz σ 31 ((0 : Int32))) 19)).toNatClampNeg ((0 : Int32))) 14 ((gz (pz σ 31 ((0 : Int32))) 19)).toNatClampNeg ((0 : Int32))) 15 ((gz (pz σ 31 ((0 : Int32))) 19)).toNatClampNeg ((0 : Int32))) 16 ((gz (pz σ 31 ((0 : Int32))) 19)).toNatClampNeg ((0 : Int32))) 17 ((gz (pz σ 31 ((0 : Int32))) 19)).toNatClampNeg ((0 : Int32))) 18 ((gz (pz σ 31 ((0 : Int32))) 19)).toNatClampNeg ((0 : Int32))) 19) + (1 : Int32))))
  else
  if a2 < 0 ∨ 10 ≤ (a2).toNatClampNeg then none else
  Option.bind (fR_enter (pf (pz (pf (pf (pf (pf (pf (pf (pf (pf (pf (pz σ 31 ((0 : Int32))) 10 ((gz (pz σ 31 ((0 : Int32))) 19)).toNatClampNeg a1) 11 ((gz (pz σ 31 ((0 : Int32))) 19)).toNatClampNeg a2) 12 ((gz (pz σ 31 ((0 : Int32))) 19)).toNatClampNeg ((0 : Int32))) 13 ((gz (pz σ 31 ((0 : Int32))) 19)).toNatClampNeg ((0 : Int32))) 14 ((gz (pz σ 31 ((0 : Int32))) 19)).toNatClampNeg ((0 : Int32))) 15 ((gz (pz σ 31 ((0 : Int32))) 19)).toNatClampNeg ((0 : Int32))) 16 ((gz (pz σ 31 ((0 : Int32))) 19)).toNatClampNeg ((0 : Int32))) 17 ((gz (pz σ 31 ((0 : Int32))) 19)).toNatClampNeg ((0 : Int32))) 18 ((gz (pz σ 31 ((0 : Int32))) 19)).toNatClampNeg ((0 : Int32))) 19 (((gz (pf (pf (pf (pf (pf (pf (pf (pf (pf (pz σ 31 ((0 : Int32))) 10 ((gz (pz σ 31 ((0 : Int32))) 19)).toNatClampNeg a1) 11 ((gz (pz σ 31 ((0 : Int32))) 19)).toNatClampNeg a2) 12 ((gz (pz σ 31 ((0 : Int32))) 19)).toNatClampNeg ((0 : Int32))) 13 ((gz (pz σ 31 ((0 : Int32))) 19)).toNatClampNeg ((0 : Int32))) 14 ((gz (pz σ 31 ((0 : Int32))) 19)).toNatClampNeg ((0 : Int32))) 15 ((gz (pz σ 31 ((0 : Int32))) 19)).toNatClampNeg ((0 : Int32))) 16 ((gz (pz σ 31 ((0 : Int32))) 19)).toNatClampNeg ((0 : Int32))) 17 ((gz (pz σ 31 ((0 : Int32))) 19)).toNatClampNeg ((0 : Int32))) 18 ((gz (pz σ 31 ((0 : Int32))) 19)).toNatClampNeg ((0 : Int32))) 19) + (1 : Int32)))) 9 (a2).toNatClampNeg ((1 : Int32))) ((gz (pz σ 31 ((0 : Int32))) 19)) ((0 : Int32)) ((u3).toInt64)) (fun u9 =>
  some (u9))) (fun u7 =>
  some ((gz (pz σ 31 ((0 : Int32))) 19), u7))
  else
  if (gz (pz σ 31 ((0 : Int32))) 27) = (900 : Int32) then
  some ((-1 : Int32), pz σ 31 ((0 : Int32)))
  else
  if (gz (pz σ 31 ((0 : Int32))) 19) < 0 ∨ 40 ≤ ((gz (pz σ 31 ((0 : Int32))) 19)).toNatClampNeg then none else
  Option.bind (if u4 = 0 then
  some (pz (pf (pf (pf (pf (pf (pf (pf (pf (pf (pz σ 31 ((0 : Int32))) 10 ((gz (pz σ 31 ((0 : Int32))) 19)).toNatClampNeg a1) 11 ((gz (pz σ 31 ((0 : Int32))) 19)).toNatClampNeg a2) 12 ((gz (pz σ 31 ((0 : Int32))) 19)).toNatClampNeg ((0 : Int32))) 13 ((gz (pz σ 31 ((0 : Int32))) 19)).toNatClampNeg ((0 : Int32))) 14 ((gz (pz σ 31 ((0 : Int32))) 19)).toNatClampNeg ((0 : Int32))) 15 ((gz (pz σ 31 ((0 : Int32))) 19)).toNatClampNeg ((0 : Int32))) 16 ((gz (pz σ 31 ((0 : Int32))) 19)).toNatClampNeg ((0 : Int32))) 17 ((gz (pz σ 31 ((0 : Int32))) 19)).toNatClampNeg ((0 : Int32))) 18 ((gz (pz σ 31 ((0 : Int32))) 19)).toNatClampNeg ((0 : Int32))) 19 (((gz (pf (pf (pf (pf (pf (pf (pf (pf (pf (pz σ 31 ((0 : Int32))) 10 ((gz (pz σ 31 ((0 : Int32))) 19)).toNatClampNeg a1) 11 ((gz (pz σ 31 ((0 : Int32))) 19)).toNatClampNeg a2) 12 ((gz (pz σ 31 ((0 : Int32))) 19)).toNatClampNeg ((0 : Int32))) 13 ((gz (pz σ 31 ((0 : Int32))) 19)).toNatClampNeg ((0 : Int32))) 14 ((gz (pz σ 31 ((0 : Int32))) 19)).toNatClampNeg ((0 : Int32))) 15 ((gz (pz σ 31 ((0 : Int32))) 19)).toNatClampNeg ((0 : Int32))) 16 ((gz (pz σ 31 ((0 : Int32))) 19)).toNatClampNeg ((0 : Int32))) 17 ((gz (pz σ 31 ((0 : Int32))) 19)).toNatClampNeg ((0 : Int32))) 18 ((gz (pz σ 31 ((0 : Int32))) 19)).toNatClampNeg ((0 : Int32))) 19) + (1 : Int32))))
  else
  if a2 < 0 ∨ 10 ≤ (a2).toNatClampNeg then none else
  Option.bind (fR_enter (pf (pz (pf (pf (pf (pf (pf (pf (pf (pf (pf (pz σ 31 ((0 : Int32))) 10 ((gz (pz σ 31 ((0 : Int32))) 19)).toNatClampNeg a1) 11 ((gz (pz σ 31 ((0 : Int32))) 19)).toNatClampNeg a2) 12 ((gz (pz σ 31 ((0 : Int32))) 19)).toNatClampNeg ((0 : Int32))) 13 ((gz (pz σ 31 ((0 : Int32))) 19)).toNatClampNeg ((0 : Int32))) 14 ((gz (pz σ 31 ((0 : Int32))) 19)).toNatClampNeg ((0 : Int32))) 15 ((gz (pz σ 31 ((0 : Int32))) 19)).toNatClampNeg ((0 : Int32))) 16 ((gz (pz σ 31 ((0 : Int32))) 19)).toNatClampNeg ((0 : Int32))) 17 ((gz (pz σ 31 ((0 : Int32))) 19)).toNatClampNeg ((0 : Int32))) 18 ((gz (pz σ 31 ((0 : Int32))) 19)).toNatClampNeg ((0 : Int32))) 19 (((gz (pf (pf (pf (pf (pf (pf (pf (pf (pf (pz σ 31 ((0 : Int32))) 10 ((gz (pz σ 31 ((0 : Int32))) 19)).toNatClampNeg a1) 11 ((gz (pz σ 31 ((0 : Int32))) 19)).toNatClampNeg a2) 12 ((gz (pz σ 31 ((0 : Int32))) 19)).toNatClampNeg ((0 : Int32))) 13 ((gz (pz σ 31 ((0 : Int32))) 19)).toNatClampNeg ((0 : Int32))) 14 ((gz (pz σ 31 ((0 : Int32))) 19)).toNatClampNeg ((0 : Int32))) 15 ((gz (pz σ 31 ((0 : Int32))) 19)).toNatClampNeg ((0 : Int32))) 16 ((gz (pz σ 31 ((0 : Int32))) 19)).toNatClampNeg ((0 : Int32))) 17 ((gz (pz σ 31 ((0 : Int32))) 19)).toNatClampNeg ((0 : Int32))) 18 ((gz (pz σ 31 ((0 : Int32))) 19)).toNatClampNeg ((0 : Int32))) 19) + (1 : Int32)))) 9 (a2).toNatClampNeg ((1 : Int32))) ((gz (pz σ 31 ((0 : Int32))) 19)) ((0 : Int32)) ((u3).toInt64)) (fun u13 =>
  some (u13))) (fun u11 =>
  some ((gz (pz σ 31 ((0 : Int32))) 19), u11))))))
set_option maxRecDepth 100000 in
set_option maxHeartbeats 4000000 in
theorem cR_join (l : Launch) (D : va_G) (ad : Nat → Nat) (cA : Nat → ClassId) (kk : Nat → Nat) (hd : RD ad) {σ : SR} {a1 : Int32} {a2 : Int32} {o : Int32 × SR} (hF : fR_join σ a1 a2 = some o) : Mi l yX11_join cX11_join 6 .int { frames := 1, cells := 0, slots := 0, locals := 24 } [.ref (ad 35), .int a1, .int a2] (RP D ad cA kk σ) o.1 (RP D ad cA kk (o.2)) (RA ad) := by
  refine Mi.of (own := RX11) rfl (by decide +kernel) (Nat.le_of_ble_eq_true rfl) ?_
  intro p e s m args below meth c ls S hr hlk hP hl
  have hW := RW.start hd hP
  have hl : lv_has ls 6 [(0, .ref (ad 35)), (1, .int a1), (2, .int a2)] := hl
  rw [fR_join] at hF
  refine lv_aload_n S.1 S.2.1 dX11_join_0 rfl (lv_at hl 0 rfl) ?_
  refine lv_iconst (v := (0 : Int32)) S.1 S.2.1 dX11_join_1 (by decide) ?_
  refine rp_thrown S hW dX11_join_2 (fun H locs hW => ?_)
  refine lv_iload_n S.1 S.2.1 dX11_join_5 rfl (lv_at hl 1 rfl) ?_
  refine lv_iconst (v := (0 : Int32)) S.1 S.2.1 dX11_join_6 (by decide) ?_
  refine lv_iconst (v := (3 : Int32)) S.1 S.2.1 dX11_join_7 (by decide) ?_
  obtain ⟨u1, hu1, hF⟩ := bd_of hF
  refine sc_i (k := 3) (As := [.int a1, .int ((0 : Int32)), .int ((3 : Int32))]) (rest := []) (cR_in l hu1) S (gd_S m_391 m_392 m_5 m_393) rfl rfl (by decide +kernel) ⟨Nat.le_of_ble_eq_true rfl, Nat.le_of_ble_eq_true rfl⟩ rfl hl.1 rfl (Nat.le_of_ble_eq_true rfl) ⟨Nat.le_of_ble_eq_true rfl, Nat.le_of_ble_eq_true rfl⟩ dX11_join_8 ?_
  refine lv_if_eq (tgt := 33) S.1 S.2.1 dX11_join_11 (by decide) (fun hc => ?_) (fun hc => ?_)
  · have hF := it_pos hc hF
    refine lv_iconst (v := (-1 : Int32)) S.1 S.2.1 dX11_join_33 (by decide) ?_
    obtain rfl := Option.some.inj hF
    exact rr_i S hr hlk hW rfl rfl dX11_join_34
  · have hF := it_neg hc hF
    refine lv_iload_n S.1 S.2.1 dX11_join_14 rfl (lv_at hl 2 rfl) ?_
    refine lv_iconst (v := (0 : Int32)) S.1 S.2.1 dX11_join_15 (by decide) ?_
    refine lv_bipush (v := (9 : Int32)) S.1 S.2.1 dX11_join_16 (by decide) ?_
    obtain ⟨u2, hu2, hF⟩ := bd_of hF
    refine sc_i (k := 3) (As := [.int a2, .int ((0 : Int32)), .int ((9 : Int32))]) (rest := []) (cR_in l hu2) S (gd_S m_391 m_392 m_5 m_393) rfl rfl (by decide +kernel) ⟨Nat.le_of_ble_eq_true rfl, Nat.le_of_ble_eq_true rfl⟩ rfl hl.1 rfl (Nat.le_of_ble_eq_true rfl) ⟨Nat.le_of_ble_eq_true rfl, Nat.le_of_ble_eq_true rfl⟩ dX11_join_18 ?_
    refine lv_if_eq (tgt := 33) S.1 S.2.1 dX11_join_21 (by decide) (fun hc => ?_) (fun hc => ?_)
    · have hF := it_pos hc hF
      refine lv_iconst (v := (-1 : Int32)) S.1 S.2.1 dX11_join_33 (by decide) ?_
      obtain rfl := Option.some.inj hF
      exact rr_i S hr hlk hW rfl rfl dX11_join_34
    · have hF := it_neg hc hF
      refine lv_aload_n S.1 S.2.1 dX11_join_24 rfl (lv_at hl 0 rfl) ?_
      refine rg_members S hW dX11_join_25 ?_
      refine lv_bipush (v := (40 : Int32)) S.1 S.2.1 dX11_join_28 (by decide) ?_
      refine lv_icmp_ne (tgt := 35) S.1 S.2.1 dX11_join_30 (by decide) (fun hc => ?_) (fun hc => ?_)
      · have hF := it_neg hc hF
        refine lv_aload_n S.1 S.2.1 dX11_join_35 rfl (lv_at hl 0 rfl) ?_
        refine lv_iconst (v := (3 : Int32)) S.1 S.2.1 dX11_join_36 (by decide) ?_
        refine lv_aload_n S.1 S.2.1 dX11_join_37 rfl (lv_at hl 0 rfl) ?_
        refine rg_month S hW dX11_join_38 ?_
        obtain ⟨u3, hu3, hF⟩ := bd_of hF
        refine rc_i (k := 2) (As := [.int ((3 : Int32)), .int ((gz (pz σ 31 ((0 : Int32))) 20))]) (rest := []) (cR_ruleOf l D ad cA kk hd hu3) hd (fun _ h => h) S hW (gd_V m_483 m_484 m_485 m_5 m_486) (by decide +kernel) ⟨Nat.le_of_ble_eq_true rfl, Nat.le_of_ble_eq_true rfl⟩ rfl hl.1 rfl (Nat.le_of_ble_eq_true rfl) ⟨Nat.le_of_ble_eq_true rfl, Nat.le_of_ble_eq_true rfl⟩ dX11_join_41 (fun H locs hW => ?_)
        refine lv_istore_n (lv' := [(3, .int u3), (0, .ref (ad 35)), (1, .int a1), (2, .int a2)]) S.1 S.2.1 dX11_join_44 rfl hl (by decide) rfl (fun ls hl => ?_)
        refine lv_iload_n S.1 S.2.1 dX11_join_45 rfl (lv_at hl 0 rfl) ?_
        obtain ⟨u4, hX, hF⟩ := bd_of hF
        refine jn1 (fun H locs ls => lv_has ls 6 [(0, .ref (ad 35)), (1, .int a1), (2, .int a2), (3, .int u3)] ∧ RW D ad cA kk (pz σ 31 ((0 : Int32))) s (RA ad) H locs) 63 [.int u4] (fun H locs ls hJ => ?_) (fun Ju4 => ?_)
        · obtain ⟨hl, hW⟩ := hJ
          refine lv_istore (lv' := [(4, .int u4), (0, .ref (ad 35)), (1, .int a1), (2, .int a2), (3, .int u3)]) S.1 S.2.1 dX11_join_63 hl (by decide) rfl (fun ls hl => ?_)
          refine lv_iload S.1 S.2.1 dX11_join_65 (lv_at hl 0 rfl) ?_
          refine lv_if_eq (tgt := 82) S.1 S.2.1 dX11_join_67 (by decide) (fun hc => ?_) (fun hc => ?_)
          · have hF := it_pos hc hF
            refine lv_aload_n S.1 S.2.1 dX11_join_82 rfl (lv_at hl 1 rfl) ?_
            refine rg_members S hW dX11_join_83 ?_
            refine lv_istore (lv' := [(5, .int ((gz (pz σ 31 ((0 : Int32))) 19))), (4, .int u4), (0, .ref (ad 35)), (1, .int a1), (2, .int a2), (3, .int u3)]) S.1 S.2.1 dX11_join_86 hl (by decide) rfl (fun ls hl => ?_)
            refine lv_aload_n S.1 S.2.1 dX11_join_88 rfl (lv_at hl 2 rfl) ?_
            refine rg_kind S hW dX11_join_89 ?_
            refine lv_iload S.1 S.2.1 dX11_join_92 (lv_at hl 0 rfl) ?_
            refine lv_iload_n S.1 S.2.1 dX11_join_94 rfl (lv_at hl 3 rfl) ?_
            obtain ⟨h6, hF⟩ := gd_of hF
            refine rs_kind S hW h6 dX11_join_95 (fun H locs hW => ?_)
            refine lv_aload_n S.1 S.2.1 dX11_join_96 rfl (lv_at hl 2 rfl) ?_
            refine rg_house S hW dX11_join_97 ?_
            refine lv_iload S.1 S.2.1 dX11_join_100 (lv_at hl 0 rfl) ?_
            refine lv_iload_n S.1 S.2.1 dX11_join_102 rfl (lv_at hl 4 rfl) ?_
            refine rs_house S hW h6 dX11_join_103 (fun H locs hW => ?_)
            refine lv_aload_n S.1 S.2.1 dX11_join_104 rfl (lv_at hl 2 rfl) ?_
            refine rg_state S hW dX11_join_105 ?_
            refine lv_iload S.1 S.2.1 dX11_join_108 (lv_at hl 0 rfl) ?_
            refine lv_iconst (v := (0 : Int32)) S.1 S.2.1 dX11_join_110 (by decide) ?_
            refine rs_state S hW h6 dX11_join_111 (fun H locs hW => ?_)
            refine lv_aload_n S.1 S.2.1 dX11_join_112 rfl (lv_at hl 2 rfl) ?_
            refine rg_bought S hW dX11_join_113 ?_
            refine lv_iload S.1 S.2.1 dX11_join_116 (lv_at hl 0 rfl) ?_
            refine lv_iconst (v := (0 : Int32)) S.1 S.2.1 dX11_join_118 (by decide) ?_
            refine rs_bought S hW h6 dX11_join_119 (fun H locs hW => ?_)
            refine lv_aload_n S.1 S.2.1 dX11_join_120 rfl (lv_at hl 2 rfl) ?_
            refine rg_owing S hW dX11_join_121 ?_
            refine lv_iload S.1 S.2.1 dX11_join_124 (lv_at hl 0 rfl) ?_
            refine lv_iconst (v := (0 : Int32)) S.1 S.2.1 dX11_join_126 (by decide) ?_
            refine rs_owing S hW h6 dX11_join_127 (fun H locs hW => ?_)
            refine lv_aload_n S.1 S.2.1 dX11_join_128 rfl (lv_at hl 2 rfl) ?_
            refine rg_refusal S hW dX11_join_129 ?_
            refine lv_iload S.1 S.2.1 dX11_join_132 (lv_at hl 0 rfl) ?_
            refine lv_iconst (v := (0 : Int32)) S.1 S.2.1 dX11_join_134 (by decide) ?_
            refine rs_refusal S hW h6 dX11_join_135 (fun H locs hW => ?_)
            refine lv_aload_n S.1 S.2.1 dX11_join_136 rfl (lv_at hl 2 rfl) ?_
            refine rg_sentLast S hW dX11_join_137 ?_
            refine lv_iload S.1 S.2.1 dX11_join_140 (lv_at hl 0 rfl) ?_
            refine lv_iconst (v := (0 : Int32)) S.1 S.2.1 dX11_join_142 (by decide) ?_
            refine rs_sentLast (y := (0 : Int32)) S hW h6 rfl dX11_join_143 (fun H locs hW => ?_)
            refine lv_aload_n S.1 S.2.1 dX11_join_144 rfl (lv_at hl 2 rfl) ?_
            refine rg_shortLast S hW dX11_join_145 ?_
            refine lv_iload S.1 S.2.1 dX11_join_148 (lv_at hl 0 rfl) ?_
            refine lv_iconst (v := (0 : Int32)) S.1 S.2.1 dX11_join_150 (by decide) ?_
            refine rs_shortLast (y := (0 : Int32)) S hW h6 rfl dX11_join_151 (fun H locs hW => ?_)
            refine lv_aload_n S.1 S.2.1 dX11_join_152 rfl (lv_at hl 2 rfl) ?_
            refine rg_refusedLast S hW dX11_join_153 ?_
            refine lv_iload S.1 S.2.1 dX11_join_156 (lv_at hl 0 rfl) ?_
            refine lv_iconst (v := (0 : Int32)) S.1 S.2.1 dX11_join_158 (by decide) ?_
            refine rs_refusedLast (y := (0 : Int32)) S hW h6 rfl dX11_join_159 (fun H locs hW => ?_)
            refine lv_aload_n S.1 S.2.1 dX11_join_160 rfl (lv_at hl 2 rfl) ?_
            refine lv_dup S.1 S.2.1 dX11_join_161 rfl ?_
            refine rg_members S hW dX11_join_162 ?_
            refine lv_iconst (v := (1 : Int32)) S.1 S.2.1 dX11_join_165 (by decide) ?_
            refine lv_iadd S.1 S.2.1 dX11_join_166 ?_
            refine rp_members S hW dX11_join_167 (fun H locs hW => ?_)
            refine lv_iload S.1 S.2.1 dX11_join_170 (lv_at hl 1 rfl) ?_
            obtain ⟨u7, hX, hF⟩ := bd_of hF
            refine jn1 (fun H locs ls => lv_has ls 6 [(5, .int ((gz (pz σ 31 ((0 : Int32))) 19)))] ∧ RW D ad cA kk u7 s (RA ad) H locs) 191 [] (fun H locs ls hJ => ?_) (fun Ju7 => ?_)
            · obtain ⟨hl, hW⟩ := hJ
              refine lv_iload S.1 S.2.1 dX11_join_191 (lv_at hl 0 rfl) ?_
              obtain rfl := Option.some.inj hF
              exact rr_i S hr hlk hW rfl rfl dX11_join_193
            · have hF := hX
              refine lv_if_eq (tgt := 191) S.1 S.2.1 dX11_join_172 (by decide) (fun hc => ?_) (fun hc => ?_)
              · have hF := it_pos hc hF
                obtain rfl := Option.some.inj hF
                exact Ju7 _ _ _ ⟨lv_sub hl [0] rfl, hW⟩
              · have hF := it_neg hc hF
                refine lv_aload_n S.1 S.2.1 dX11_join_175 rfl (lv_at hl 2 rfl) ?_
                refine rg_hadGift S hW dX11_join_176 ?_
                refine lv_iload_n S.1 S.2.1 dX11_join_179 rfl (lv_at hl 4 rfl) ?_
                refine lv_iconst (v := (1 : Int32)) S.1 S.2.1 dX11_join_180 (by decide) ?_
                obtain ⟨h8, hF⟩ := gd_of hF
                refine rs_hadGift (y := (1 : Int32)) S hW h8 rfl dX11_join_181 (fun H locs hW => ?_)
                refine lv_aload_n S.1 S.2.1 dX11_join_182 rfl (lv_at hl 2 rfl) ?_
                refine lv_iload S.1 S.2.1 dX11_join_183 (lv_at hl 0 rfl) ?_
                refine lv_iconst (v := (0 : Int32)) S.1 S.2.1 dX11_join_185 (by decide) ?_
                refine lv_iload_n S.1 S.2.1 dX11_join_186 rfl (lv_at hl 5 rfl) ?_
                refine lv_i2l (v := (u3).toInt64) S.1 S.2.1 dX11_join_187 rfl ?_
                obtain ⟨u9, hu9, hF⟩ := bd_of hF
                refine rc_v (k := 3) (As := [.int ((gz (pz σ 31 ((0 : Int32))) 19)), .int ((0 : Int32)), .long ((u3).toInt64)]) (rest := []) (cR_enter l D ad cA kk hd hu9) hd (fun _ h => h) S hW (gd_V m_566 m_567 m_568 m_5 m_569) (by decide +kernel) ⟨Nat.le_of_ble_eq_true rfl, Nat.le_of_ble_eq_true rfl⟩ rfl hl.1 rfl (Nat.le_of_ble_eq_true rfl) ⟨Nat.le_of_ble_eq_true rfl, Nat.le_of_ble_eq_true rfl⟩ dX11_join_188 (fun H locs hW => ?_)
                obtain rfl := Option.some.inj hF
                exact Ju7 _ _ _ ⟨lv_sub hl [0] rfl, hW⟩
          · have hF := it_neg hc hF
            refine lv_aload_n S.1 S.2.1 dX11_join_70 rfl (lv_at hl 1 rfl) ?_
            refine rg_entries S hW dX11_join_71 ?_
            refine lv_sipush (v := (900 : Int32)) S.1 S.2.1 dX11_join_74 (by decide) ?_
            refine lv_icmp_ne (tgt := 82) S.1 S.2.1 dX11_join_77 (by decide) (fun hc => ?_) (fun hc => ?_)
            · have hF := it_neg hc hF
              refine lv_aload_n S.1 S.2.1 dX11_join_82 rfl (lv_at hl 1 rfl) ?_
              refine rg_members S hW dX11_join_83 ?_
              refine lv_istore (lv' := [(5, .int ((gz (pz σ 31 ((0 : Int32))) 19))), (4, .int u4), (0, .ref (ad 35)), (1, .int a1), (2, .int a2), (3, .int u3)]) S.1 S.2.1 dX11_join_86 hl (by decide) rfl (fun ls hl => ?_)
              refine lv_aload_n S.1 S.2.1 dX11_join_88 rfl (lv_at hl 2 rfl) ?_
              refine rg_kind S hW dX11_join_89 ?_
              refine lv_iload S.1 S.2.1 dX11_join_92 (lv_at hl 0 rfl) ?_
              refine lv_iload_n S.1 S.2.1 dX11_join_94 rfl (lv_at hl 3 rfl) ?_
              obtain ⟨h10, hF⟩ := gd_of hF
              refine rs_kind S hW h10 dX11_join_95 (fun H locs hW => ?_)
              refine lv_aload_n S.1 S.2.1 dX11_join_96 rfl (lv_at hl 2 rfl) ?_
              refine rg_house S hW dX11_join_97 ?_
              refine lv_iload S.1 S.2.1 dX11_join_100 (lv_at hl 0 rfl) ?_
              refine lv_iload_n S.1 S.2.1 dX11_join_102 rfl (lv_at hl 4 rfl) ?_
              refine rs_house S hW h10 dX11_join_103 (fun H locs hW => ?_)
              refine lv_aload_n S.1 S.2.1 dX11_join_104 rfl (lv_at hl 2 rfl) ?_
              refine rg_state S hW dX11_join_105 ?_
              refine lv_iload S.1 S.2.1 dX11_join_108 (lv_at hl 0 rfl) ?_
              refine lv_iconst (v := (0 : Int32)) S.1 S.2.1 dX11_join_110 (by decide) ?_
              refine rs_state S hW h10 dX11_join_111 (fun H locs hW => ?_)
              refine lv_aload_n S.1 S.2.1 dX11_join_112 rfl (lv_at hl 2 rfl) ?_
              refine rg_bought S hW dX11_join_113 ?_
              refine lv_iload S.1 S.2.1 dX11_join_116 (lv_at hl 0 rfl) ?_
              refine lv_iconst (v := (0 : Int32)) S.1 S.2.1 dX11_join_118 (by decide) ?_
              refine rs_bought S hW h10 dX11_join_119 (fun H locs hW => ?_)
              refine lv_aload_n S.1 S.2.1 dX11_join_120 rfl (lv_at hl 2 rfl) ?_
              refine rg_owing S hW dX11_join_121 ?_
              refine lv_iload S.1 S.2.1 dX11_join_124 (lv_at hl 0 rfl) ?_
              refine lv_iconst (v := (0 : Int32)) S.1 S.2.1 dX11_join_126 (by decide) ?_
              refine rs_owing S hW h10 dX11_join_127 (fun H locs hW => ?_)
              refine lv_aload_n S.1 S.2.1 dX11_join_128 rfl (lv_at hl 2 rfl) ?_
              refine rg_refusal S hW dX11_join_129 ?_
              refine lv_iload S.1 S.2.1 dX11_join_132 (lv_at hl 0 rfl) ?_
              refine lv_iconst (v := (0 : Int32)) S.1 S.2.1 dX11_join_134 (by decide) ?_
              refine rs_refusal S hW h10 dX11_join_135 (fun H locs hW => ?_)
              refine lv_aload_n S.1 S.2.1 dX11_join_136 rfl (lv_at hl 2 rfl) ?_
              refine rg_sentLast S hW dX11_join_137 ?_
              refine lv_iload S.1 S.2.1 dX11_join_140 (lv_at hl 0 rfl) ?_
              refine lv_iconst (v := (0 : Int32)) S.1 S.2.1 dX11_join_142 (by decide) ?_
              refine rs_sentLast (y := (0 : Int32)) S hW h10 rfl dX11_join_143 (fun H locs hW => ?_)
              refine lv_aload_n S.1 S.2.1 dX11_join_144 rfl (lv_at hl 2 rfl) ?_
              refine rg_shortLast S hW dX11_join_145 ?_
              refine lv_iload S.1 S.2.1 dX11_join_148 (lv_at hl 0 rfl) ?_
              refine lv_iconst (v := (0 : Int32)) S.1 S.2.1 dX11_join_150 (by decide) ?_
              refine rs_shortLast (y := (0 : Int32)) S hW h10 rfl dX11_join_151 (fun H locs hW => ?_)
              refine lv_aload_n S.1 S.2.1 dX11_join_152 rfl (lv_at hl 2 rfl) ?_
              refine rg_refusedLast S hW dX11_join_153 ?_
              refine lv_iload S.1 S.2.1 dX11_join_156 (lv_at hl 0 rfl) ?_
              refine lv_iconst (v := (0 : Int32)) S.1 S.2.1 dX11_join_158 (by decide) ?_
              refine rs_refusedLast (y := (0 : Int32)) S hW h10 rfl dX11_join_159 (fun H locs hW => ?_)
              refine lv_aload_n S.1 S.2.1 dX11_join_160 rfl (lv_at hl 2 rfl) ?_
              refine lv_dup S.1 S.2.1 dX11_join_161 rfl ?_
              refine rg_members S hW dX11_join_162 ?_
              refine lv_iconst (v := (1 : Int32)) S.1 S.2.1 dX11_join_165 (by decide) ?_
              refine lv_iadd S.1 S.2.1 dX11_join_166 ?_
              refine rp_members S hW dX11_join_167 (fun H locs hW => ?_)
              refine lv_iload S.1 S.2.1 dX11_join_170 (lv_at hl 1 rfl) ?_
              obtain ⟨u11, hX, hF⟩ := bd_of hF
              refine jn1 (fun H locs ls => lv_has ls 6 [(5, .int ((gz (pz σ 31 ((0 : Int32))) 19)))] ∧ RW D ad cA kk u11 s (RA ad) H locs) 191 [] (fun H locs ls hJ => ?_) (fun Ju11 => ?_)
              · obtain ⟨hl, hW⟩ := hJ
                refine lv_iload S.1 S.2.1 dX11_join_191 (lv_at hl 0 rfl) ?_
                obtain rfl := Option.some.inj hF
                exact rr_i S hr hlk hW rfl rfl dX11_join_193
              · have hF := hX
                refine lv_if_eq (tgt := 191) S.1 S.2.1 dX11_join_172 (by decide) (fun hc => ?_) (fun hc => ?_)
                · have hF := it_pos hc hF
                  obtain rfl := Option.some.inj hF
                  exact Ju11 _ _ _ ⟨lv_sub hl [0] rfl, hW⟩
                · have hF := it_neg hc hF
                  refine lv_aload_n S.1 S.2.1 dX11_join_175 rfl (lv_at hl 2 rfl) ?_
                  refine rg_hadGift S hW dX11_join_176 ?_
                  refine lv_iload_n S.1 S.2.1 dX11_join_179 rfl (lv_at hl 4 rfl) ?_
                  refine lv_iconst (v := (1 : Int32)) S.1 S.2.1 dX11_join_180 (by decide) ?_
                  obtain ⟨h12, hF⟩ := gd_of hF
                  refine rs_hadGift (y := (1 : Int32)) S hW h12 rfl dX11_join_181 (fun H locs hW => ?_)
                  refine lv_aload_n S.1 S.2.1 dX11_join_182 rfl (lv_at hl 2 rfl) ?_
                  refine lv_iload S.1 S.2.1 dX11_join_183 (lv_at hl 0 rfl) ?_
                  refine lv_iconst (v := (0 : Int32)) S.1 S.2.1 dX11_join_185 (by decide) ?_
                  refine lv_iload_n S.1 S.2.1 dX11_join_186 rfl (lv_at hl 5 rfl) ?_
                  refine lv_i2l (v := (u3).toInt64) S.1 S.2.1 dX11_join_187 rfl ?_
                  obtain ⟨u13, hu13, hF⟩ := bd_of hF
                  refine rc_v (k := 3) (As := [.int ((gz (pz σ 31 ((0 : Int32))) 19)), .int ((0 : Int32)), .long ((u3).toInt64)]) (rest := []) (cR_enter l D ad cA kk hd hu13) hd (fun _ h => h) S hW (gd_V m_566 m_567 m_568 m_5 m_569) (by decide +kernel) ⟨Nat.le_of_ble_eq_true rfl, Nat.le_of_ble_eq_true rfl⟩ rfl hl.1 rfl (Nat.le_of_ble_eq_true rfl) ⟨Nat.le_of_ble_eq_true rfl, Nat.le_of_ble_eq_true rfl⟩ dX11_join_188 (fun H locs hW => ?_)
                  obtain rfl := Option.some.inj hF
                  exact Ju11 _ _ _ ⟨lv_sub hl [0] rfl, hW⟩
            · have hF := it_pos hc hF
              refine lv_iconst (v := (-1 : Int32)) S.1 S.2.1 dX11_join_80 (by decide) ?_
              obtain rfl := Option.some.inj hF
              exact rr_i S hr hlk hW rfl rfl dX11_join_81
        · have hF := hX
          refine lv_if_le (tgt := 62) S.1 S.2.1 dX11_join_46 (by decide) (fun hc => ?_) (fun hc => ?_)
          · have hF := it_pos hc hF
            refine lv_iconst (v := (0 : Int32)) S.1 S.2.1 dX11_join_62 (by decide) ?_
            obtain rfl := Option.some.inj hF
            exact Ju4 _ _ _ ⟨lv_sub hl [1, 2, 3, 0] rfl, hW⟩
          · have hF := it_neg hc hF
            refine lv_aload_n S.1 S.2.1 dX11_join_49 rfl (lv_at hl 1 rfl) ?_
            refine rg_hadGift S hW dX11_join_50 ?_
            refine lv_iload_n S.1 S.2.1 dX11_join_53 rfl (lv_at hl 3 rfl) ?_
            obtain ⟨h5, hF⟩ := gd_of hF
            refine rl_hadGift S hW h5 dX11_join_54 ?_
            refine lv_if_ne (tgt := 62) S.1 S.2.1 dX11_join_55 (by decide) (fun hc => ?_) (fun hc => ?_)
            · have hF := it_neg hc hF
              refine lv_iconst (v := (0 : Int32)) S.1 S.2.1 dX11_join_62 (by decide) ?_
              obtain rfl := Option.some.inj hF
              exact Ju4 _ _ _ ⟨lv_sub hl [1, 2, 3, 0] rfl, hW⟩
            · have hF := it_pos hc hF
              refine lv_iconst (v := (1 : Int32)) S.1 S.2.1 dX11_join_58 (by decide) ?_
              refine lv_goto (tgt := 63) S.1 S.2.1 dX11_join_59 (by decide) ?_
              obtain rfl := Option.some.inj hF
              exact Ju4 _ _ _ ⟨lv_sub hl [1, 2, 3, 0] rfl, hW⟩
      · have hF := it_pos hc hF
        refine lv_iconst (v := (-1 : Int32)) S.1 S.2.1 dX11_join_33 (by decide) ?_
        obtain rfl := Option.some.inj hF
        exact rr_i S hr hlk hW rfl rfl dX11_join_34
