def fR_rules_L40 : Nat → Int32 → Int32 → SR → Option ((Int32 × SR) ⊕ (Int32 × SR))
  | 0, _, _, _ => none
  | n + 1, x1, x2, σ =>
    if x2 = 0 then
    some (Sum.inl ((x1, σ)))
    else
    Option.bind (fR_readStatement σ x1) (fun u1 =>
    if u1.1 = 0 then
    some (Sum.inr ((-1 : Int32), u1.2))
    else
    Option.bind (fR_here u1.2) (fun u2 =>
    Option.bind (if u2 = (44 : Int32) then
    some ((1 : Int32))
    else
    some ((0 : Int32))) (fun u3 =>
    if u3 = 0 then
    fR_rules_L40 n ((x1 + (1 : Int32))) u3 u1.2
    else
    fR_rules_L40 n ((x1 + (1 : Int32))) u3 (pz u1.2 32 (((gz u1.2 32) + (1 : Int32)))))))
def fR_rules (σ : SR) : Option (Int32 × SR) :=
  Option.bind (fR_rules_L40 1000 ((gz (pz (pz (pz (pz (pz (pz σ 31 ((0 : Int32))) 33 ((gz (pz σ 31 ((0 : Int32))) 1))) 1 ((0 : Int32))) 32 ((0 : Int32))) 2 ((0 : Int32))) 3 ((0 : Int32))) 7)) ((1 : Int32)) (pz (pz (pz (pz (pz (pz σ 31 ((0 : Int32))) 33 ((gz (pz σ 31 ((0 : Int32))) 1))) 1 ((0 : Int32))) 32 ((0 : Int32))) 2 ((0 : Int32))) 3 ((0 : Int32)))) (fun w7 => Sum.elim (fun u1 =>
  if (gz u1.2 33) ≤ (gz u1.2 32) then
  some ((u1.1 - (gz u1.2 7)), pz u1.2 7 u1.1)
  else
  Option.bind (fR_fails u1.2 ((1 : Int32)) ((gz u1.2 32))) (fun u6 =>
  some ((-1 : Int32), u6.2))) (fun r => some r) w7)
set_option maxRecDepth 100000 in
set_option maxHeartbeats 4000000 in
theorem cR_rules (l : Launch) (D : va_G) (ad : Nat → Nat) (cA : Nat → ClassId) (kk : Nat → Nat) (hd : RD ad) {σ : SR} {o : Int32 × SR} (hF : fR_rules σ = some o) : Mi l yX11_rules cX11_rules 4 .int { frames := 6, cells := 0, slots := 0, locals := 135 } [.ref (ad 35)] (RP D ad cA kk σ) o.1 (RP D ad cA kk (o.2)) (RA ad) := by
  refine Mi.of (own := RX11) rfl (by decide +kernel) (Nat.le_of_ble_eq_true rfl) ?_
  intro p e s m args below meth c ls S hr hlk hP hl
  have hW := RW.start hd hP
  have hl : lv_has ls 4 [(0, .ref (ad 35))] := hl
  rw [fR_rules] at hF
  refine lv_aload_n S.1 S.2.1 dX11_rules_0 rfl (lv_at hl 0 rfl) ?_
  refine lv_iconst (v := (0 : Int32)) S.1 S.2.1 dX11_rules_1 (by decide) ?_
  refine rp_thrown S hW dX11_rules_2 (fun H locs hW => ?_)
  refine lv_aload_n S.1 S.2.1 dX11_rules_5 rfl (lv_at hl 0 rfl) ?_
  refine lv_aload_n S.1 S.2.1 dX11_rules_6 rfl (lv_at hl 0 rfl) ?_
  refine rg_taped S hW dX11_rules_7 ?_
  refine rp_size S hW dX11_rules_10 (fun H locs hW => ?_)
  refine lv_aload_n S.1 S.2.1 dX11_rules_13 rfl (lv_at hl 0 rfl) ?_
  refine lv_iconst (v := (0 : Int32)) S.1 S.2.1 dX11_rules_14 (by decide) ?_
  refine rp_taped S hW dX11_rules_15 (fun H locs hW => ?_)
  refine lv_aload_n S.1 S.2.1 dX11_rules_18 rfl (lv_at hl 0 rfl) ?_
  refine lv_iconst (v := (0 : Int32)) S.1 S.2.1 dX11_rules_19 (by decide) ?_
  refine rp_at S hW dX11_rules_20 (fun H locs hW => ?_)
  refine lv_aload_n S.1 S.2.1 dX11_rules_23 rfl (lv_at hl 0 rfl) ?_
  refine lv_iconst (v := (0 : Int32)) S.1 S.2.1 dX11_rules_24 (by decide) ?_
  refine rp_faultKind S hW dX11_rules_25 (fun H locs hW => ?_)
  refine lv_aload_n S.1 S.2.1 dX11_rules_28 rfl (lv_at hl 0 rfl) ?_
  refine lv_iconst (v := (0 : Int32)) S.1 S.2.1 dX11_rules_29 (by decide) ?_
  refine rp_faultPlace S hW dX11_rules_30 (fun H locs hW => ?_)
  refine lv_aload_n S.1 S.2.1 dX11_rules_33 rfl (lv_at hl 0 rfl) ?_
  refine rg_rules S hW dX11_rules_34 ?_
  refine lv_istore_n (lv' := [(1, .int ((gz (pz (pz (pz (pz (pz (pz σ 31 ((0 : Int32))) 33 ((gz (pz σ 31 ((0 : Int32))) 1))) 1 ((0 : Int32))) 32 ((0 : Int32))) 2 ((0 : Int32))) 3 ((0 : Int32))) 7))), (0, .ref (ad 35))]) S.1 S.2.1 dX11_rules_37 rfl hl (by decide) rfl (fun ls hl => ?_)
  refine lv_iconst (v := (1 : Int32)) S.1 S.2.1 dX11_rules_38 (by decide) ?_
  refine lv_istore_n (lv' := [(2, .int ((1 : Int32))), (1, .int ((gz (pz (pz (pz (pz (pz (pz σ 31 ((0 : Int32))) 33 ((gz (pz σ 31 ((0 : Int32))) 1))) 1 ((0 : Int32))) 32 ((0 : Int32))) 2 ((0 : Int32))) 3 ((0 : Int32))) 7))), (0, .ref (ad 35))]) S.1 S.2.1 dX11_rules_39 rfl hl (by decide) rfl (fun ls hl => ?_)
  obtain ⟨w7, hX, hF⟩ := bd_of hF
  refine jn1 (fun H locs ls => ∃ u1, w7 = Sum.inl u1 ∧ lv_has ls 4 [(0, .ref (ad 35)), (1, .int u1.1)] ∧ RW D ad cA kk u1.2 s (RA ad) H locs) 89 [] (fun H locs ls hJ => ?_) (fun Ju1 => ?_)
  · obtain ⟨u1, rfl, hl, hW⟩ := hJ
    rw [Sum.elim_inl] at hF
    refine lv_aload_n S.1 S.2.1 dX11_rules_89 rfl (lv_at hl 0 rfl) ?_
    refine rg_at S hW dX11_rules_90 ?_
    refine lv_aload_n S.1 S.2.1 dX11_rules_93 rfl (lv_at hl 0 rfl) ?_
    refine rg_size S hW dX11_rules_94 ?_
    refine lv_icmp_ge (tgt := 112) S.1 S.2.1 dX11_rules_97 (by decide) (fun hc => ?_) (fun hc => ?_)
    · have hF := it_pos hc hF
      refine lv_iload_n S.1 S.2.1 dX11_rules_112 rfl (lv_at hl 1 rfl) ?_
      refine lv_aload_n S.1 S.2.1 dX11_rules_113 rfl (lv_at hl 0 rfl) ?_
      refine rg_rules S hW dX11_rules_114 ?_
      refine lv_isub S.1 S.2.1 dX11_rules_117 ?_
      refine lv_istore_n (lv' := [(3, .int ((u1.1 - (gz u1.2 7)))), (0, .ref (ad 35)), (1, .int u1.1)]) S.1 S.2.1 dX11_rules_118 rfl hl (by decide) rfl (fun ls hl => ?_)
      refine lv_aload_n S.1 S.2.1 dX11_rules_119 rfl (lv_at hl 1 rfl) ?_
      refine lv_iload_n S.1 S.2.1 dX11_rules_120 rfl (lv_at hl 2 rfl) ?_
      refine rp_rules S hW dX11_rules_121 (fun H locs hW => ?_)
      refine lv_iload_n S.1 S.2.1 dX11_rules_124 rfl (lv_at hl 0 rfl) ?_
      obtain rfl := Option.some.inj hF
      exact rr_i S hr hlk hW rfl rfl dX11_rules_125
    · have hF := it_neg hc hF
      refine lv_aload_n S.1 S.2.1 dX11_rules_100 rfl (lv_at hl 0 rfl) ?_
      refine lv_iconst (v := (1 : Int32)) S.1 S.2.1 dX11_rules_101 (by decide) ?_
      refine lv_aload_n S.1 S.2.1 dX11_rules_102 rfl (lv_at hl 0 rfl) ?_
      refine rg_at S hW dX11_rules_103 ?_
      obtain ⟨u6, hu6, hF⟩ := bd_of hF
      refine rc_i (k := 2) (As := [.int ((1 : Int32)), .int ((gz u1.2 32))]) (rest := []) (cR_fails l D ad cA kk hd hu6) hd (fun _ h => h) S hW (gd_V m_452 m_453 m_454 m_5 m_455) (by decide +kernel) ⟨Nat.le_of_ble_eq_true rfl, Nat.le_of_ble_eq_true rfl⟩ rfl hl.1 rfl (Nat.le_of_ble_eq_true rfl) ⟨Nat.le_of_ble_eq_true rfl, Nat.le_of_ble_eq_true rfl⟩ dX11_rules_106 (fun H locs hW => ?_)
      refine lv_pop S.1 S.2.1 dX11_rules_109 rfl ?_
      refine lv_iconst (v := (-1 : Int32)) S.1 S.2.1 dX11_rules_110 (by decide) ?_
      obtain rfl := Option.some.inj hF
      exact rr_i S hr hlk hW rfl rfl dX11_rules_111
  · have hF0 := hF
    clear hF
    refine lpW (fun (xu1 : Int32 × Int32 × SR) H locs ls => lv_has ls 4 [(0, .ref (ad 35)), (1, .int xu1.1), (2, .int xu1.2.1)] ∧ RW D ad cA kk xu1.2.2 s (RA ad) H locs) 40 (fun n xu1 => fR_rules_L40 n xu1.1 xu1.2.1 xu1.2.2) w7 (fun _ => rfl) (fun n xu1 ihu1 hF H locs ls hJ => ?_) 1000 ((gz (pz (pz (pz (pz (pz (pz σ 31 ((0 : Int32))) 33 ((gz (pz σ 31 ((0 : Int32))) 1))) 1 ((0 : Int32))) 32 ((0 : Int32))) 2 ((0 : Int32))) 3 ((0 : Int32))) 7), (1 : Int32), pz (pz (pz (pz (pz (pz σ 31 ((0 : Int32))) 33 ((gz (pz σ 31 ((0 : Int32))) 1))) 1 ((0 : Int32))) 32 ((0 : Int32))) 2 ((0 : Int32))) 3 ((0 : Int32))) hX _ _ _ ⟨lv_sub hl [2, 1, 0] rfl, hW⟩
    obtain ⟨hl, hW⟩ := hJ
    have hF : fR_rules_L40 (n + 1) xu1.1 xu1.2.1 xu1.2.2 = some w7 := hF
    rw [fR_rules_L40] at hF
    refine lv_iload_n S.1 S.2.1 dX11_rules_40 rfl (lv_at hl 2 rfl) ?_
    refine lv_if_eq (tgt := 89) S.1 S.2.1 dX11_rules_41 (by decide) (fun hc => ?_) (fun hc => ?_)
    · have hF := it_pos hc hF
      obtain rfl := Option.some.inj hF
      exact Ju1 _ _ _ ⟨_, rfl, lv_sub hl [0, 1] rfl, hW⟩
    · have hF := it_neg hc hF
      refine lv_aload_n S.1 S.2.1 dX11_rules_44 rfl (lv_at hl 0 rfl) ?_
      refine lv_iload_n S.1 S.2.1 dX11_rules_45 rfl (lv_at hl 1 rfl) ?_
      obtain ⟨u3, hu3, hF⟩ := bd_of hF
      refine rc_i (k := 1) (As := [.int xu1.1]) (rest := []) (cR_readStatement l D ad cA kk hd hu3) hd (fun _ h => h) S hW (gd_V m_378 m_379 m_380 m_5 m_381) (by decide +kernel) ⟨Nat.le_of_ble_eq_true rfl, Nat.le_of_ble_eq_true rfl⟩ rfl hl.1 rfl (Nat.le_of_ble_eq_true rfl) ⟨Nat.le_of_ble_eq_true rfl, Nat.le_of_ble_eq_true rfl⟩ dX11_rules_46 (fun H locs hW => ?_)
      refine lv_if_ne (tgt := 54) S.1 S.2.1 dX11_rules_49 (by decide) (fun hc => ?_) (fun hc => ?_)
      · have hF := it_neg hc hF
        refine lv_iinc (v := (xu1.1 + (1 : Int32))) (lv' := [(1, .int ((xu1.1 + (1 : Int32)))), (0, .ref (ad 35)), (2, .int xu1.2.1)]) S.1 S.2.1 dX11_rules_54 hl (k := 1) rfl rfl (by decide) rfl (fun ls hl => ?_)
        refine lv_aload_n S.1 S.2.1 dX11_rules_57 rfl (lv_at hl 1 rfl) ?_
        obtain ⟨u4, hu4, hF⟩ := bd_of hF
        refine rc_i (k := 0) (As := []) (rest := []) (cR_here l D ad cA kk hd hu4) hd (fun _ h => h) S hW (gd_V m_387 m_388 m_389 m_5 m_390) (by decide +kernel) ⟨Nat.le_of_ble_eq_true rfl, Nat.le_of_ble_eq_true rfl⟩ rfl hl.1 rfl (Nat.le_of_ble_eq_true rfl) ⟨Nat.le_of_ble_eq_true rfl, Nat.le_of_ble_eq_true rfl⟩ dX11_rules_58 (fun H locs hW => ?_)
        refine lv_bipush (v := (44 : Int32)) S.1 S.2.1 dX11_rules_61 (by decide) ?_
        obtain ⟨u5, hX, hF⟩ := bd_of hF
        refine jn1 (fun H locs ls => lv_has ls 4 [(0, .ref (ad 35)), (1, .int ((xu1.1 + (1 : Int32))))] ∧ RW D ad cA kk u3.2 s (RA ad) H locs) 71 [.int u5] (fun H locs ls hJ => ?_) (fun Ju5 => ?_)
        · obtain ⟨hl, hW⟩ := hJ
          refine lv_istore_n (lv' := [(2, .int u5), (0, .ref (ad 35)), (1, .int ((xu1.1 + (1 : Int32))))]) S.1 S.2.1 dX11_rules_71 rfl hl (by decide) rfl (fun ls hl => ?_)
          refine lv_iload_n S.1 S.2.1 dX11_rules_72 rfl (lv_at hl 0 rfl) ?_
          refine lv_if_eq (tgt := 40) S.1 S.2.1 dX11_rules_73 (by decide) (fun hc => ?_) (fun hc => ?_)
          · have hF := it_pos hc hF
            exact ihu1 ((xu1.1 + (1 : Int32)), u5, u3.2) hF _ _ _ ⟨lv_sub hl [1, 2, 0] rfl, hW⟩
          · have hF := it_neg hc hF
            refine lv_aload_n S.1 S.2.1 dX11_rules_76 rfl (lv_at hl 1 rfl) ?_
            refine lv_dup S.1 S.2.1 dX11_rules_77 rfl ?_
            refine rg_at S hW dX11_rules_78 ?_
            refine lv_iconst (v := (1 : Int32)) S.1 S.2.1 dX11_rules_81 (by decide) ?_
            refine lv_iadd S.1 S.2.1 dX11_rules_82 ?_
            refine rp_at S hW dX11_rules_83 (fun H locs hW => ?_)
            refine lv_goto (tgt := 40) S.1 S.2.1 dX11_rules_86 (by decide) ?_
            exact ihu1 ((xu1.1 + (1 : Int32)), u5, pz u3.2 32 (((gz u3.2 32) + (1 : Int32)))) hF _ _ _ ⟨lv_sub hl [1, 2, 0] rfl, hW⟩
        · have hF := hX
          refine lv_icmp_ne (tgt := 70) S.1 S.2.1 dX11_rules_63 (by decide) (fun hc => ?_) (fun hc => ?_)
          · have hF := it_neg hc hF
            refine lv_iconst (v := (0 : Int32)) S.1 S.2.1 dX11_rules_70 (by decide) ?_
            obtain rfl := Option.some.inj hF
            exact Ju5 _ _ _ ⟨lv_sub hl [1, 0] rfl, hW⟩
          · have hF := it_pos hc hF
            refine lv_iconst (v := (1 : Int32)) S.1 S.2.1 dX11_rules_66 (by decide) ?_
            refine lv_goto (tgt := 71) S.1 S.2.1 dX11_rules_67 (by decide) ?_
            obtain rfl := Option.some.inj hF
            exact Ju5 _ _ _ ⟨lv_sub hl [1, 0] rfl, hW⟩
      · have hF := it_pos hc hF
        refine lv_iconst (v := (-1 : Int32)) S.1 S.2.1 dX11_rules_52 (by decide) ?_
        obtain rfl := Option.some.inj hF
        have hF0 : some ((-1 : Int32), u3.2) = some o := hF0
        obtain rfl := Option.some.inj hF0
        exact rr_i S hr hlk hW rfl rfl dX11_rules_53
