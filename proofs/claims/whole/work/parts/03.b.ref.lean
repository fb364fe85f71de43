def fR_lay_L3 (l1 : Int32) : Nat → Int32 → SR → Option (SR)
  | 0, _, _ => none
  | n + 1, x2, σ =>
    if x2 < 0 then
    some ((σ))
    else
    if (gz σ 1) < 0 ∨ 200 ≤ ((gz σ 1)).toNatClampNeg then none else
    fR_lay_L3 l1 n ((x2 + (-8 : Int32))) (pz (pf σ 0 ((gz σ 1)).toNatClampNeg (((l1 >>> (x2 &&& 31)) &&& (255 : Int32)))) 1 (((gz (pf σ 0 ((gz σ 1)).toNatClampNeg (((l1 >>> (x2 &&& 31)) &&& (255 : Int32)))) 1) + (1 : Int32))))
def fR_lay (σ : SR) (a1 : Int32) : Option (SR) :=
  Option.bind (fR_lay_L3 a1 1000 ((24 : Int32)) σ) (fun u1 =>
  some u1)
set_option maxRecDepth 100000 in
set_option maxHeartbeats 4000000 in
theorem cR_lay (l : Launch) (D : va_G) (ad : Nat → Nat) (cA : Nat → ClassId) (kk : Nat → Nat) (hd : RD ad) {σ : SR} {a1 : Int32} {o : SR} (hF : fR_lay σ a1 = some o) : Mv l yX11_lay cX11_lay 3 { frames := 0, cells := 0, slots := 0, locals := 0 } [.ref (ad 35), .int a1] (RP D ad cA kk σ) (RP D ad cA kk o) (RA ad) := by
  refine Mv.of (own := RX11) rfl (by decide +kernel) (Nat.le_of_ble_eq_true rfl) ?_
  intro p e s m args below meth c ls S hr hlk hP hl _
  have hW := RW.start hd hP
  have hl : lv_has ls 3 [(0, .ref (ad 35)), (1, .int a1)] := hl
  rw [fR_lay] at hF
  refine lv_bipush (v := (24 : Int32)) S.1 S.2.1 dX11_lay_0 (by decide) ?_
  refine lv_istore_n (lv' := [(2, .int ((24 : Int32))), (0, .ref (ad 35)), (1, .int a1)]) S.1 S.2.1 dX11_lay_2 rfl hl (by decide) rfl (fun ls hl => ?_)
  obtain ⟨u1, hX, hF⟩ := bd_of hF
  refine jn1 (fun H locs ls => lv_has ls 3 [] ∧ RW D ad cA kk u1 s (RA ad) H locs) 39 [] (fun H locs ls hJ => ?_) (fun Ju1 => ?_)
  · obtain ⟨hl, hW⟩ := hJ
    obtain rfl := Option.some.inj hF
    exact rr_v S hr hlk hW dX11_lay_39
  · refine lpW (fun (xu1 : Int32 × SR) H locs ls => lv_has ls 3 [(0, .ref (ad 35)), (1, .int a1), (2, .int xu1.1)] ∧ RW D ad cA kk xu1.2 s (RA ad) H locs) 3 (fun n xu1 => fR_lay_L3 a1 n xu1.1 xu1.2) u1 (fun _ => rfl) (fun n xu1 ihu1 hF H locs ls hJ => ?_) 1000 ((24 : Int32), σ) hX _ _ _ ⟨lv_sub hl [1, 2, 0] rfl, hW⟩
    obtain ⟨hl, hW⟩ := hJ
    have hF : fR_lay_L3 a1 (n + 1) xu1.1 xu1.2 = some u1 := hF
    rw [fR_lay_L3] at hF
    refine lv_iload_n S.1 S.2.1 dX11_lay_3 rfl (lv_at hl 2 rfl) ?_
    refine lv_if_lt (tgt := 39) S.1 S.2.1 dX11_lay_4 (by decide) (fun hc => ?_) (fun hc => ?_)
    · have hF := it_pos hc hF
      obtain rfl := Option.some.inj hF
      exact Ju1 _ _ _ ⟨lv_sub hl [] rfl, hW⟩
    · have hF := it_neg hc hF
      refine lv_aload_n S.1 S.2.1 dX11_lay_7 rfl (lv_at hl 0 rfl) ?_
      refine rg_tape S hW dX11_lay_8 ?_
      refine lv_aload_n S.1 S.2.1 dX11_lay_11 rfl (lv_at hl 0 rfl) ?_
      refine rg_taped S hW dX11_lay_12 ?_
      refine lv_iload_n S.1 S.2.1 dX11_lay_15 rfl (lv_at hl 1 rfl) ?_
      refine lv_iload_n S.1 S.2.1 dX11_lay_16 rfl (lv_at hl 2 rfl) ?_
      refine lv_ishr S.1 S.2.1 dX11_lay_17 ?_
      refine lv_sipush (v := (255 : Int32)) S.1 S.2.1 dX11_lay_18 (by decide) ?_
      refine lv_iand S.1 S.2.1 dX11_lay_21 ?_
      obtain ⟨h3, hF⟩ := gd_of hF
      refine rs_tape S hW h3 dX11_lay_22 (fun H locs hW => ?_)
      refine lv_aload_n S.1 S.2.1 dX11_lay_23 rfl (lv_at hl 0 rfl) ?_
      refine lv_dup S.1 S.2.1 dX11_lay_24 rfl ?_
      refine rg_taped S hW dX11_lay_25 ?_
      refine lv_iconst (v := (1 : Int32)) S.1 S.2.1 dX11_lay_28 (by decide) ?_
      refine lv_iadd S.1 S.2.1 dX11_lay_29 ?_
      refine rp_taped S hW dX11_lay_30 (fun H locs hW => ?_)
      refine lv_iinc (v := (xu1.1 + (-8 : Int32))) (lv' := [(2, .int ((xu1.1 + (-8 : Int32)))), (0, .ref (ad 35)), (1, .int a1)]) S.1 S.2.1 dX11_lay_33 hl (k := 2) rfl rfl (by decide) rfl (fun ls hl => ?_)
      refine lv_goto (tgt := 3) S.1 S.2.1 dX11_lay_36 (by decide) ?_
      exact ihu1 ((xu1.1 + (-8 : Int32)), pz (pf xu1.2 0 ((gz xu1.2 1)).toNatClampNeg (((a1 >>> (xu1.1 &&& 31)) &&& (255 : Int32)))) 1 (((gz (pf xu1.2 0 ((gz xu1.2 1)).toNatClampNeg (((a1 >>> (xu1.1 &&& 31)) &&& (255 : Int32)))) 1) + (1 : Int32)))) hF _ _ _ ⟨lv_sub hl [1, 2, 0] rfl, hW⟩
def fR_end (σ : SR) (a1 : Int32) : Option (Int32 × SR) :=
  if a1 < 0 then
  some ((0 : Int32), pz σ 31 ((0 : Int32)))
  else
  if a1 ≤ (gz (pz σ 31 ((0 : Int32))) 1) then
  some ((1 : Int32), pz (pz σ 31 ((0 : Int32))) 1 a1)
  else
  some ((0 : Int32), pz σ 31 ((0 : Int32)))
set_option maxRecDepth 100000 in
set_option maxHeartbeats 4000000 in
theorem cR_end (l : Launch) (D : va_G) (ad : Nat → Nat) (cA : Nat → ClassId) (kk : Nat → Nat) (hd : RD ad) {σ : SR} {a1 : Int32} {o : Int32 × SR} (hF : fR_end σ a1 = some o) : Mi l yX11_end cX11_end 2 .boolean { frames := 0, cells := 0, slots := 0, locals := 0 } [.ref (ad 35), .int a1] (RP D ad cA kk σ) o.1 (RP D ad cA kk (o.2)) (RA ad) := by
  refine Mi.of (own := RX11) rfl (by decide +kernel) (Nat.le_of_ble_eq_true rfl) ?_
  intro p e s m args below meth c ls S hr hlk hP hl
  have hW := RW.start hd hP
  have hl : lv_has ls 2 [(0, .ref (ad 35)), (1, .int a1)] := hl
  rw [fR_end] at hF
  refine lv_aload_n S.1 S.2.1 dX11_end_0 rfl (lv_at hl 0 rfl) ?_
  refine lv_iconst (v := (0 : Int32)) S.1 S.2.1 dX11_end_1 (by decide) ?_
  refine rp_thrown S hW dX11_end_2 (fun H locs hW => ?_)
  refine lv_iload_n S.1 S.2.1 dX11_end_5 rfl (lv_at hl 1 rfl) ?_
  refine lv_if_lt (tgt := 17) S.1 S.2.1 dX11_end_6 (by decide) (fun hc => ?_) (fun hc => ?_)
  · have hF := it_pos hc hF
    refine lv_iconst (v := (0 : Int32)) S.1 S.2.1 dX11_end_17 (by decide) ?_
    obtain rfl := Option.some.inj hF
    exact rr_i S hr hlk hW rfl rfl dX11_end_18
  · have hF := it_neg hc hF
    refine lv_iload_n S.1 S.2.1 dX11_end_9 rfl (lv_at hl 1 rfl) ?_
    refine lv_aload_n S.1 S.2.1 dX11_end_10 rfl (lv_at hl 0 rfl) ?_
    refine rg_taped S hW dX11_end_11 ?_
    refine lv_icmp_le (tgt := 19) S.1 S.2.1 dX11_end_14 (by decide) (fun hc => ?_) (fun hc => ?_)
    · have hF := it_pos hc hF
      refine lv_aload_n S.1 S.2.1 dX11_end_19 rfl (lv_at hl 0 rfl) ?_
      refine lv_iload_n S.1 S.2.1 dX11_end_20 rfl (lv_at hl 1 rfl) ?_
      refine rp_taped S hW dX11_end_21 (fun H locs hW => ?_)
      refine lv_iconst (v := (1 : Int32)) S.1 S.2.1 dX11_end_24 (by decide) ?_
      obtain rfl := Option.some.inj hF
      exact rr_i S hr hlk hW rfl rfl dX11_end_25
    · have hF := it_neg hc hF
      refine lv_iconst (v := (0 : Int32)) S.1 S.2.1 dX11_end_17 (by decide) ?_
      obtain rfl := Option.some.inj hF
      exact rr_i S hr hlk hW rfl rfl dX11_end_18
def fR_here (σ : SR) : Option (Int32) :=
  if (gz σ 33) ≤ (gz σ 32) then
  some ((-1 : Int32))
  else
  if (gz σ 32) < 0 ∨ 200 ≤ ((gz σ 32)).toNatClampNeg then none else
  some ((gf σ 0 ((gz σ 32)).toNatClampNeg))
set_option maxRecDepth 100000 in
set_option maxHeartbeats 4000000 in
theorem cR_here (l : Launch) (D : va_G) (ad : Nat → Nat) (cA : Nat → ClassId) (kk : Nat → Nat) (hd : RD ad) {σ : SR} {o : Int32} (hF : fR_here σ = some o) : Mi l yX11_here cX11_here 1 .int { frames := 0, cells := 0, slots := 0, locals := 0 } [.ref (ad 35)] (RP D ad cA kk σ) o (RP D ad cA kk σ) (RA ad) := by
  refine Mi.of (own := RX11) rfl (by decide +kernel) (Nat.le_of_ble_eq_true rfl) ?_
  intro p e s m args below meth c ls S hr hlk hP hl
  have hW := RW.start hd hP
  have hl : lv_has ls 1 [(0, .ref (ad 35))] := hl
  rw [fR_here] at hF
  refine lv_aload_n S.1 S.2.1 dX11_here_0 rfl (lv_at hl 0 rfl) ?_
  refine rg_at S hW dX11_here_1 ?_
  refine lv_aload_n S.1 S.2.1 dX11_here_4 rfl (lv_at hl 0 rfl) ?_
  refine rg_size S hW dX11_here_5 ?_
  refine lv_icmp_ge (tgt := 23) S.1 S.2.1 dX11_here_8 (by decide) (fun hc => ?_) (fun hc => ?_)
  · have hF := it_pos hc hF
    refine lv_iconst (v := (-1 : Int32)) S.1 S.2.1 dX11_here_23 (by decide) ?_
    obtain rfl := Option.some.inj hF
    exact rr_i S hr hlk hW rfl rfl dX11_here_24
  · have hF := it_neg hc hF
    refine lv_aload_n S.1 S.2.1 dX11_here_11 rfl (lv_at hl 0 rfl) ?_
    refine rg_tape S hW dX11_here_12 ?_
    refine lv_aload_n S.1 S.2.1 dX11_here_15 rfl (lv_at hl 0 rfl) ?_
    refine rg_at S hW dX11_here_16 ?_
    obtain ⟨h1, hF⟩ := gd_of hF
    refine rl_tape S hW h1 dX11_here_19 ?_
    refine lv_goto (tgt := 24) S.1 S.2.1 dX11_here_20 (by decide) ?_
    obtain rfl := Option.some.inj hF
    exact rr_i S hr hlk hW rfl rfl dX11_here_24
def fR_fails (σ : SR) (a1 : Int32) (a2 : Int32) : Option (Int32 × SR) :=
  some ((0 : Int32), pz (pz σ 2 a1) 3 a2)
set_option maxRecDepth 100000 in
set_option maxHeartbeats 4000000 in
theorem cR_fails (l : Launch) (D : va_G) (ad : Nat → Nat) (cA : Nat → ClassId) (kk : Nat → Nat) (hd : RD ad) {σ : SR} {a1 : Int32} {a2 : Int32} {o : Int32 × SR} (hF : fR_fails σ a1 a2 = some o) : Mi l yX11_fails cX11_fails 3 .boolean { frames := 0, cells := 0, slots := 0, locals := 0 } [.ref (ad 35), .int a1, .int a2] (RP D ad cA kk σ) o.1 (RP D ad cA kk (o.2)) (RA ad) := by
  refine Mi.of (own := RX11) rfl (by decide +kernel) (Nat.le_of_ble_eq_true rfl) ?_
  intro p e s m args below meth c ls S hr hlk hP hl
  have hW := RW.start hd hP
  have hl : lv_has ls 3 [(0, .ref (ad 35)), (1, .int a1), (2, .int a2)] := hl
  rw [fR_fails] at hF
  refine lv_aload_n S.1 S.2.1 dX11_fails_0 rfl (lv_at hl 0 rfl) ?_
  refine lv_iload_n S.1 S.2.1 dX11_fails_1 rfl (lv_at hl 1 rfl) ?_
  refine rp_faultKind S hW dX11_fails_2 (fun H locs hW => ?_)
  refine lv_aload_n S.1 S.2.1 dX11_fails_5 rfl (lv_at hl 0 rfl) ?_
  refine lv_iload_n S.1 S.2.1 dX11_fails_6 rfl (lv_at hl 2 rfl) ?_
  refine rp_faultPlace S hW dX11_fails_7 (fun H locs hW => ?_)
  refine lv_iconst (v := (0 : Int32)) S.1 S.2.1 dX11_fails_10 (by decide) ?_
  obtain rfl := Option.some.inj hF
  exact rr_i S hr hlk hW rfl rfl dX11_fails_11
def fR_readNumber_L31 (l1 : Int32) (l2 : Int32) : Nat → Int32 → SR → Option (Int32 × SR)
  | 0, _, _ => none
  | n + 1, x3, σ =>
    Option.bind (fR_here σ) (fun u1 =>
    Option.bind (fR_in u1 ((48 : Int32)) ((57 : Int32))) (fun u2 =>
    if u2 = 0 then
    some ((x3, σ))
    else
    Option.bind (if x3 ≤ (100000 : Int32) then
    Option.bind (fR_here σ) (fun u4 =>
    some (((((10 : Int32) * x3) + u4) - (48 : Int32))))
    else
    some (x3)) (fun u3 =>
    fR_readNumber_L31 l1 l2 n u3 (pz σ 32 (((gz σ 32) + (1 : Int32)))))))
def fR_readNumber (σ : SR) (a1 : Int32) : Option (Int32 × SR) :=
  Option.bind (fR_here σ) (fun u1 =>
  Option.bind (fR_in u1 ((48 : Int32)) ((57 : Int32))) (fun u2 =>
  if u2 = 0 then
  Option.bind (fR_fails σ ((1 : Int32)) ((gz σ 32))) (fun u10 =>
  if u10.1 = 0 ∨ u10.1 = 1 then some (u10.1, u10.2) else none)
  else
  Option.bind (fR_readNumber_L31 a1 ((gz σ 32)) 1000 ((0 : Int32)) σ) (fun u3 =>
  if u3.1 ≤ a1 then
  some ((1 : Int32), pz u3.2 34 u3.1)
  else
  Option.bind (fR_fails (pz u3.2 34 u3.1) ((2 : Int32)) ((gz σ 32))) (fun u9 =>
  if u9.1 = 0 then
  some ((0 : Int32), u9.2)
  else
  some ((1 : Int32), u9.2)))))
set_option maxRecDepth 100000 in
set_option maxHeartbeats 4000000 in
theorem cR_readNumber (l : Launch) (D : va_G) (ad : Nat → Nat) (cA : Nat → ClassId) (kk : Nat → Nat) (hd : RD ad) {σ : SR} {a1 : Int32} {o : Int32 × SR} (hF : fR_readNumber σ a1 = some o) : Mi l yX11_readNumber cX11_readNumber 4 .boolean { frames := 1, cells := 0, slots := 0, locals := 22 } [.ref (ad 35), .int a1] (RP D ad cA kk σ) o.1 (RP D ad cA kk (o.2)) (RA ad) := by
  refine Mi.of (own := RX11) rfl (by decide +kernel) (Nat.le_of_ble_eq_true rfl) ?_
  intro p e s m args below meth c ls S hr hlk hP hl
  have hW := RW.start hd hP
  have hl : lv_has ls 4 [(0, .ref (ad 35)), (1, .int a1)] := hl
  rw [fR_readNumber] at hF
  refine lv_aload_n S.1 S.2.1 dX11_readNumber_0 rfl (lv_at hl 0 rfl) ?_
  refine rg_at S hW dX11_readNumber_1 ?_
  refine lv_istore_n (lv' := [(2, .int ((gz σ 32))), (0, .ref (ad 35)), (1, .int a1)]) S.1 S.2.1 dX11_readNumber_4 rfl hl (by decide) rfl (fun ls hl => ?_)
  refine lv_aload_n S.1 S.2.1 dX11_readNumber_5 rfl (lv_at hl 1 rfl) ?_
  obtain ⟨u1, hu1, hF⟩ := bd_of hF
  refine rc_i (k := 0) (As := []) (rest := []) (cR_here l D ad cA kk hd hu1) hd (fun _ h => h) S hW (gd_V m_387 m_388 m_389 m_5 m_390) (by decide +kernel) ⟨Nat.le_of_ble_eq_true rfl, Nat.le_of_ble_eq_true rfl⟩ rfl hl.1 rfl (Nat.le_of_ble_eq_true rfl) ⟨Nat.le_of_ble_eq_true rfl, Nat.le_of_ble_eq_true rfl⟩ dX11_readNumber_6 (fun H locs hW => ?_)
  refine lv_bipush (v := (48 : Int32)) S.1 S.2.1 dX11_readNumber_9 (by decide) ?_
  refine lv_bipush (v := (57 : Int32)) S.1 S.2.1 dX11_readNumber_11 (by decide) ?_
  obtain ⟨u2, hu2, hF⟩ := bd_of hF
  refine sc_i (k := 3) (As := [.int u1, .int ((48 : Int32)), .int ((57 : Int32))]) (rest := []) (cR_in l hu2) S (gd_S m_391 m_392 m_5 m_393) rfl rfl (by decide +kernel) ⟨Nat.le_of_ble_eq_true rfl, Nat.le_of_ble_eq_true rfl⟩ rfl hl.1 rfl (Nat.le_of_ble_eq_true rfl) ⟨Nat.le_of_ble_eq_true rfl, Nat.le_of_ble_eq_true rfl⟩ dX11_readNumber_13 ?_
  refine lv_if_ne (tgt := 29) S.1 S.2.1 dX11_readNumber_16 (by decide) (fun hc => ?_) (fun hc => ?_)
  · have hF := it_neg hc hF
    refine lv_iconst (v := (0 : Int32)) S.1 S.2.1 dX11_readNumber_29 (by decide) ?_
    refine lv_istore_n (lv' := [(3, .int ((0 : Int32))), (2, .int ((gz σ 32))), (0, .ref (ad 35)), (1, .int a1)]) S.1 S.2.1 dX11_readNumber_30 rfl hl (by decide) rfl (fun ls hl => ?_)
    obtain ⟨u3, hX, hF⟩ := bd_of hF
    refine jn1 (fun H locs ls => lv_has ls 4 [(0, .ref (ad 35)), (1, .int a1), (2, .int ((gz σ 32))), (3, .int u3.1)] ∧ RW D ad cA kk u3.2 s (RA ad) H locs) 81 [] (fun H locs ls hJ => ?_) (fun Ju3 => ?_)
    · obtain ⟨hl, hW⟩ := hJ
      refine lv_aload_n S.1 S.2.1 dX11_readNumber_81 rfl (lv_at hl 0 rfl) ?_
      refine lv_iload_n S.1 S.2.1 dX11_readNumber_82 rfl (lv_at hl 3 rfl) ?_
      refine rp_number S hW dX11_readNumber_83 (fun H locs hW => ?_)
      refine lv_iload_n S.1 S.2.1 dX11_readNumber_86 rfl (lv_at hl 3 rfl) ?_
      refine lv_iload_n S.1 S.2.1 dX11_readNumber_87 rfl (lv_at hl 1 rfl) ?_
      refine lv_icmp_le (tgt := 100) S.1 S.2.1 dX11_readNumber_88 (by decide) (fun hc => ?_) (fun hc => ?_)
      · have hF := it_pos hc hF
        refine lv_iconst (v := (1 : Int32)) S.1 S.2.1 dX11_readNumber_100 (by decide) ?_
        refine lv_goto (tgt := 105) S.1 S.2.1 dX11_readNumber_101 (by decide) ?_
        obtain rfl := Option.some.inj hF
        exact rr_i S hr hlk hW rfl rfl dX11_readNumber_105
      · have hF := it_neg hc hF
        refine lv_aload_n S.1 S.2.1 dX11_readNumber_91 rfl (lv_at hl 0 rfl) ?_
        refine lv_iconst (v := (2 : Int32)) S.1 S.2.1 dX11_readNumber_92 (by decide) ?_
        refine lv_iload_n S.1 S.2.1 dX11_readNumber_93 rfl (lv_at hl 2 rfl) ?_
        obtain ⟨u9, hu9, hF⟩ := bd_of hF
        refine rc_i (k := 2) (As := [.int ((2 : Int32)), .int ((gz σ 32))]) (rest := []) (cR_fails l D ad cA kk hd hu9) hd (fun _ h => h) S hW (gd_V m_452 m_453 m_454 m_5 m_455) (by decide +kernel) ⟨Nat.le_of_ble_eq_true rfl, Nat.le_of_ble_eq_true rfl⟩ rfl hl.1 rfl (Nat.le_of_ble_eq_true rfl) ⟨Nat.le_of_ble_eq_true rfl, Nat.le_of_ble_eq_true rfl⟩ dX11_readNumber_94 (fun H locs hW => ?_)
        refine lv_if_eq (tgt := 104) S.1 S.2.1 dX11_readNumber_97 (by decide) (fun hc => ?_) (fun hc => ?_)
        · have hF := it_pos hc hF
          refine lv_iconst (v := (0 : Int32)) S.1 S.2.1 dX11_readNumber_104 (by decide) ?_
          obtain rfl := Option.some.inj hF
          exact rr_i S hr hlk hW rfl rfl dX11_readNumber_105
        · have hF := it_neg hc hF
          refine lv_iconst (v := (1 : Int32)) S.1 S.2.1 dX11_readNumber_100 (by decide) ?_
          refine lv_goto (tgt := 105) S.1 S.2.1 dX11_readNumber_101 (by decide) ?_
          obtain rfl := Option.some.inj hF
          exact rr_i S hr hlk hW rfl rfl dX11_readNumber_105
    · refine lpW (fun (xu3 : Int32 × SR) H locs ls => lv_has ls 4 [(0, .ref (ad 35)), (1, .int a1), (2, .int ((gz σ 32))), (3, .int xu3.1)] ∧ RW D ad cA kk xu3.2 s (RA ad) H locs) 31 (fun n xu3 => fR_readNumber_L31 a1 ((gz σ 32)) n xu3.1 xu3.2) u3 (fun _ => rfl) (fun n xu3 ihu3 hF H locs ls hJ => ?_) 1000 ((0 : Int32), σ) hX _ _ _ ⟨lv_sub hl [2, 3, 1, 0] rfl, hW⟩
      obtain ⟨hl, hW⟩ := hJ
      have hF : fR_readNumber_L31 a1 ((gz σ 32)) (n + 1) xu3.1 xu3.2 = some u3 := hF
      rw [fR_readNumber_L31] at hF
      refine lv_aload_n S.1 S.2.1 dX11_readNumber_31 rfl (lv_at hl 0 rfl) ?_
      obtain ⟨u5, hu5, hF⟩ := bd_of hF
      refine rc_i (k := 0) (As := []) (rest := []) (cR_here l D ad cA kk hd hu5) hd (fun _ h => h) S hW (gd_V m_387 m_388 m_389 m_5 m_390) (by decide +kernel) ⟨Nat.le_of_ble_eq_true rfl, Nat.le_of_ble_eq_true rfl⟩ rfl hl.1 rfl (Nat.le_of_ble_eq_true rfl) ⟨Nat.le_of_ble_eq_true rfl, Nat.le_of_ble_eq_true rfl⟩ dX11_readNumber_32 (fun H locs hW => ?_)
      refine lv_bipush (v := (48 : Int32)) S.1 S.2.1 dX11_readNumber_35 (by decide) ?_
      refine lv_bipush (v := (57 : Int32)) S.1 S.2.1 dX11_readNumber_37 (by decide) ?_
      obtain ⟨u6, hu6, hF⟩ := bd_of hF
      refine sc_i (k := 3) (As := [.int u5, .int ((48 : Int32)), .int ((57 : Int32))]) (rest := []) (cR_in l hu6) S (gd_S m_391 m_392 m_5 m_393) rfl rfl (by decide +kernel) ⟨Nat.le_of_ble_eq_true rfl, Nat.le_of_ble_eq_true rfl⟩ rfl hl.1 rfl (Nat.le_of_ble_eq_true rfl) ⟨Nat.le_of_ble_eq_true rfl, Nat.le_of_ble_eq_true rfl⟩ dX11_readNumber_39 ?_
      refine lv_if_eq (tgt := 81) S.1 S.2.1 dX11_readNumber_42 (by decide) (fun hc => ?_) (fun hc => ?_)
      · have hF := it_pos hc hF
        obtain rfl := Option.some.inj hF
        exact Ju3 _ _ _ ⟨lv_sub hl [0, 1, 2, 3] rfl, hW⟩
      · have hF := it_neg hc hF
        refine lv_iload_n S.1 S.2.1 dX11_readNumber_45 rfl (lv_at hl 3 rfl) ?_
        refine lv_ldc (v := (100000 : Int32)) S.1 S.2.1 S.2.2.2.1 (S.2.2.2.2 _ m_460) dX11_readNumber_46 ?_
        obtain ⟨u7, hX, hF⟩ := bd_of hF
        refine jn1 (fun H locs ls => lv_has ls 4 [(0, .ref (ad 35)), (1, .int a1), (2, .int ((gz σ 32)))] ∧ RW D ad cA kk xu3.2 s (RA ad) H locs) 67 [.int u7] (fun H locs ls hJ => ?_) (fun Ju7 => ?_)
        · obtain ⟨hl, hW⟩ := hJ
          refine lv_istore_n (lv' := [(3, .int u7), (0, .ref (ad 35)), (1, .int a1), (2, .int ((gz σ 32)))]) S.1 S.2.1 dX11_readNumber_67 rfl hl (by decide) rfl (fun ls hl => ?_)
          refine lv_aload_n S.1 S.2.1 dX11_readNumber_68 rfl (lv_at hl 1 rfl) ?_
          refine lv_dup S.1 S.2.1 dX11_readNumber_69 rfl ?_
          refine rg_at S hW dX11_readNumber_70 ?_
          refine lv_iconst (v := (1 : Int32)) S.1 S.2.1 dX11_readNumber_73 (by decide) ?_
          refine lv_iadd S.1 S.2.1 dX11_readNumber_74 ?_
          refine rp_at S hW dX11_readNumber_75 (fun H locs hW => ?_)
          refine lv_goto (tgt := 31) S.1 S.2.1 dX11_readNumber_78 (by decide) ?_
          exact ihu3 (u7, pz xu3.2 32 (((gz xu3.2 32) + (1 : Int32)))) hF _ _ _ ⟨lv_sub hl [1, 2, 3, 0] rfl, hW⟩
        · have hF := hX
          refine lv_icmp_le (tgt := 55) S.1 S.2.1 dX11_readNumber_48 (by decide) (fun hc => ?_) (fun hc => ?_)
          · have hF := it_pos hc hF
            refine lv_bipush (v := (10 : Int32)) S.1 S.2.1 dX11_readNumber_55 (by decide) ?_
            refine lv_iload_n S.1 S.2.1 dX11_readNumber_57 rfl (lv_at hl 3 rfl) ?_
            refine lv_imul S.1 S.2.1 dX11_readNumber_58 ?_
            refine lv_aload_n S.1 S.2.1 dX11_readNumber_59 rfl (lv_at hl 0 rfl) ?_
            obtain ⟨u8, hu8, hF⟩ := bd_of hF
            refine rc_i (k := 0) (As := []) (rest := [.int (((10 : Int32) * xu3.1))]) (cR_here l D ad cA kk hd hu8) hd (fun _ h => h) S hW (gd_V m_387 m_388 m_389 m_5 m_390) (by decide +kernel) ⟨Nat.le_of_ble_eq_true rfl, Nat.le_of_ble_eq_true rfl⟩ rfl hl.1 rfl (Nat.le_of_ble_eq_true rfl) ⟨Nat.le_of_ble_eq_true rfl, Nat.le_of_ble_eq_true rfl⟩ dX11_readNumber_60 (fun H locs hW => ?_)
            refine lv_iadd S.1 S.2.1 dX11_readNumber_63 ?_
            refine lv_bipush (v := (48 : Int32)) S.1 S.2.1 dX11_readNumber_64 (by decide) ?_
            refine lv_isub S.1 S.2.1 dX11_readNumber_66 ?_
            obtain rfl := Option.some.inj hF
            exact Ju7 _ _ _ ⟨lv_sub hl [0, 1, 2] rfl, hW⟩
          · have hF := it_neg hc hF
            refine lv_iload_n S.1 S.2.1 dX11_readNumber_51 rfl (lv_at hl 3 rfl) ?_
            refine lv_goto (tgt := 67) S.1 S.2.1 dX11_readNumber_52 (by decide) ?_
            obtain rfl := Option.some.inj hF
            exact Ju7 _ _ _ ⟨lv_sub hl [0, 1, 2] rfl, hW⟩
  · have hF := it_pos hc hF
    refine lv_aload_n S.1 S.2.1 dX11_readNumber_19 rfl (lv_at hl 1 rfl) ?_
    refine lv_iconst (v := (1 : Int32)) S.1 S.2.1 dX11_readNumber_20 (by decide) ?_
    refine lv_aload_n S.1 S.2.1 dX11_readNumber_21 rfl (lv_at hl 1 rfl) ?_
    refine rg_at S hW dX11_readNumber_22 ?_
    obtain ⟨u10, hu10, hF⟩ := bd_of hF
    refine rc_i (k := 2) (As := [.int ((1 : Int32)), .int ((gz σ 32))]) (rest := []) (cR_fails l D ad cA kk hd hu10) hd (fun _ h => h) S hW (gd_V m_452 m_453 m_454 m_5 m_455) (by decide +kernel) ⟨Nat.le_of_ble_eq_true rfl, Nat.le_of_ble_eq_true rfl⟩ rfl hl.1 rfl (Nat.le_of_ble_eq_true rfl) ⟨Nat.le_of_ble_eq_true rfl, Nat.le_of_ble_eq_true rfl⟩ dX11_readNumber_25 (fun H locs hW => ?_)
    obtain ⟨hb, hF⟩ := gt_of hF
    obtain rfl := Option.some.inj hF
    exact rr_i S hr hlk hW (bool_nar hb) rfl dX11_readNumber_28
def fR_fault (σ : SR) (a1 : Int32) : Option (Int32 × SR) :=
  if a1 = 0 then
  some ((gz (pz σ 31 ((0 : Int32))) 2), pz σ 31 ((0 : Int32)))
  else
  if a1 = (1 : Int32) then
  some ((gz (pz σ 31 ((0 : Int32))) 3), pz σ 31 ((0 : Int32)))
  else
  some ((-1 : Int32), pz σ 31 ((0 : Int32)))
set_option maxRecDepth 100000 in
set_option maxHeartbeats 4000000 in
theorem cR_fault (l : Launch) (D : va_G) (ad : Nat → Nat) (cA : Nat → ClassId) (kk : Nat → Nat) (hd : RD ad) {σ : SR} {a1 : Int32} {o : Int32 × SR} (hF : fR_fault σ a1 = some o) : Mi l yX11_fault cX11_fault 2 .int { frames := 0, cells := 0, slots := 0, locals := 0 } [.ref (ad 35), .int a1] (RP D ad cA kk σ) o.1 (RP D ad cA kk (o.2)) (RA ad) := by
  refine Mi.of (own := RX11) rfl (by decide +kernel) (Nat.le_of_ble_eq_true rfl) ?_
  intro p e s m args below meth c ls S hr hlk hP hl
  have hW := RW.start hd hP
  have hl : lv_has ls 2 [(0, .ref (ad 35)), (1, .int a1)] := hl
  rw [fR_fault] at hF
  refine lv_aload_n S.1 S.2.1 dX11_fault_0 rfl (lv_at hl 0 rfl) ?_
  refine lv_iconst (v := (0 : Int32)) S.1 S.2.1 dX11_fault_1 (by decide) ?_
  refine rp_thrown S hW dX11_fault_2 (fun H locs hW => ?_)
  refine lv_iload_n S.1 S.2.1 dX11_fault_5 rfl (lv_at hl 1 rfl) ?_
  refine lv_if_ne (tgt := 16) S.1 S.2.1 dX11_fault_6 (by decide) (fun hc => ?_) (fun hc => ?_)
  · have hF := it_neg hc hF
    refine lv_iload_n S.1 S.2.1 dX11_fault_16 rfl (lv_at hl 1 rfl) ?_
    refine lv_iconst (v := (1 : Int32)) S.1 S.2.1 dX11_fault_17 (by decide) ?_
    refine lv_icmp_ne (tgt := 28) S.1 S.2.1 dX11_fault_18 (by decide) (fun hc => ?_) (fun hc => ?_)
    · have hF := it_neg hc hF
      refine lv_iconst (v := (-1 : Int32)) S.1 S.2.1 dX11_fault_28 (by decide) ?_
      obtain rfl := Option.some.inj hF
      exact rr_i S hr hlk hW rfl rfl dX11_fault_29
    · have hF := it_pos hc hF
      refine lv_aload_n S.1 S.2.1 dX11_fault_21 rfl (lv_at hl 0 rfl) ?_
      refine rg_faultPlace S hW dX11_fault_22 ?_
      refine lv_goto (tgt := 29) S.1 S.2.1 dX11_fault_25 (by decide) ?_
      obtain rfl := Option.some.inj hF
      exact rr_i S hr hlk hW rfl rfl dX11_fault_29
  · have hF := it_pos hc hF
    refine lv_aload_n S.1 S.2.1 dX11_fault_9 rfl (lv_at hl 0 rfl) ?_
    refine rg_faultKind S hW dX11_fault_10 ?_
    refine lv_goto (tgt := 29) S.1 S.2.1 dX11_fault_13 (by decide) ?_
    obtain rfl := Option.some.inj hF
    exact rr_i S hr hlk hW rfl rfl dX11_fault_29
def fR_ruleOf_L5 (σ : SR) (l1 : Int32) (l2 : Int32) : Nat → Int32 → Int32 → Option (Int32)
  | 0, _, _ => none
  | n + 1, x3, x4 =>
    if (gz σ 7) ≤ x4 then
    some ((x3))
    else
    if x4 < 0 ∨ 60 ≤ (x4).toNatClampNeg then none else
    Option.bind (if (gf σ 4 (x4).toNatClampNeg) = l1 then
    if l2 < (gf σ 6 (x4).toNatClampNeg) then
    some (x3)
    else
    if x3 = (-1 : Int32) then
    some (x4)
    else
    if x3 < 0 ∨ 60 ≤ (x3).toNatClampNeg then none else
    if (gf σ 6 (x4).toNatClampNeg) < (gf σ 6 (x3).toNatClampNeg) then
    some (x3)
    else
    some (x4)
    else
    some (x3)) (fun u2 =>
    fR_ruleOf_L5 σ l1 l2 n u2 ((x4 + (1 : Int32))))
def fR_ruleOf (σ : SR) (a1 : Int32) (a2 : Int32) : Option (Int32) :=
  Option.bind (fR_ruleOf_L5 σ a1 a2 1000 ((-1 : Int32)) ((0 : Int32))) (fun u1 =>
  if u1 = (-1 : Int32) then
  if a1 = (0 : Int32) then
  some ((10 : Int32))
  else if a1 = (1 : Int32) then
  some ((0 : Int32))
  else if a1 = (2 : Int32) then
  some ((0 : Int32))
  else if a1 = (3 : Int32) then
  some ((0 : Int32))
  else if a1 = (4 : Int32) then
  some ((0 : Int32))
  else if a1 = (5 : Int32) then
  some ((3 : Int32))
  else if a1 = (6 : Int32) then
  some ((6 : Int32))
  else if a1 = (7 : Int32) then
  some ((50 : Int32))
  else 
  some ((0 : Int32))
  else
  if u1 < 0 ∨ 60 ≤ (u1).toNatClampNeg then none else
  some ((gf σ 5 (u1).toNatClampNeg)))
set_option maxRecDepth 100000 in
set_option maxHeartbeats 4000000 in
theorem cR_ruleOf (l : Launch) (D : va_G) (ad : Nat → Nat) (cA : Nat → ClassId) (kk : Nat → Nat) (hd : RD ad) {σ : SR} {a1 : Int32} {a2 : Int32} {o : Int32} (hF : fR_ruleOf σ a1 a2 = some o) : Mi l yX11_ruleOf cX11_ruleOf 5 .int { frames := 0, cells := 0, slots := 0, locals := 0 } [.ref (ad 35), .int a1, .int a2] (RP D ad cA kk σ) o (RP D ad cA kk σ) (RA ad) := by
  refine Mi.of (own := RX11) rfl (by decide +kernel) (Nat.le_of_ble_eq_true rfl) ?_
  intro p e s m args below meth c ls S hr hlk hP hl
  have hW := RW.start hd hP
  have hl : lv_has ls 5 [(0, .ref (ad 35)), (1, .int a1), (2, .int a2)] := hl
  rw [fR_ruleOf] at hF
  refine lv_iconst (v := (-1 : Int32)) S.1 S.2.1 dX11_ruleOf_0 (by decide) ?_
  refine lv_istore_n (lv' := [(3, .int ((-1 : Int32))), (0, .ref (ad 35)), (1, .int a1), (2, .int a2)]) S.1 S.2.1 dX11_ruleOf_1 rfl hl (by decide) rfl (fun ls hl => ?_)
  refine lv_iconst (v := (0 : Int32)) S.1 S.2.1 dX11_ruleOf_2 (by decide) ?_
  refine lv_istore (lv' := [(4, .int ((0 : Int32))), (3, .int ((-1 : Int32))), (0, .ref (ad 35)), (1, .int a1), (2, .int a2)]) S.1 S.2.1 dX11_ruleOf_3 hl (by decide) rfl (fun ls hl => ?_)
  obtain ⟨u1, hX, hF⟩ := bd_of hF
  refine jn1 (fun H locs ls => lv_has ls 5 [(0, .ref (ad 35)), (1, .int a1), (3, .int u1)] ∧ RW D ad cA kk σ s (RA ad) H locs) 66 [] (fun H locs ls hJ => ?_) (fun Ju1 => ?_)
  · obtain ⟨hl, hW⟩ := hJ
    refine lv_iload_n S.1 S.2.1 dX11_ruleOf_66 rfl (lv_at hl 2 rfl) ?_
    refine lv_iconst (v := (-1 : Int32)) S.1 S.2.1 dX11_ruleOf_67 (by decide) ?_
    refine lv_icmp_eq (tgt := 78) S.1 S.2.1 dX11_ruleOf_68 (by decide) (fun hc => ?_) (fun hc => ?_)
    · have hF := it_pos hc hF
      refine lv_iload_n S.1 S.2.1 dX11_ruleOf_78 rfl (lv_at hl 1 rfl) ?_
      rcases Classical.em (a1 = (0 : Int32)) with hc0 | hc0
      · have hF := it_pos hc0 hF
        refine lv_tableIn (off := 45) (tgt := 124) S.1 S.2.1 dX11_ruleOf_79 (by rw [hc0]; decide) (by rw [hc0]; decide) (by rw [hc0]; decide) (by decide) ?_
        refine lv_bipush (v := (10 : Int32)) S.1 S.2.1 dX11_ruleOf_124 (by decide) ?_
        obtain rfl := Option.some.inj hF
        exact rr_i S hr hlk hW rfl rfl dX11_ruleOf_126
      · have hF := it_neg hc0 hF
        rcases Classical.em (a1 = (1 : Int32)) with hc1 | hc1
        · have hF := it_pos hc1 hF
          refine lv_tableIn (off := 56) (tgt := 135) S.1 S.2.1 dX11_ruleOf_79 (by rw [hc1]; decide) (by rw [hc1]; decide) (by rw [hc1]; decide) (by decide) ?_
          refine lv_iconst (v := (0 : Int32)) S.1 S.2.1 dX11_ruleOf_135 (by decide) ?_
          obtain rfl := Option.some.inj hF
          exact rr_i S hr hlk hW rfl rfl dX11_ruleOf_136
        · have hF := it_neg hc1 hF
          rcases Classical.em (a1 = (2 : Int32)) with hc2 | hc2
          · have hF := it_pos hc2 hF
            refine lv_tableIn (off := 56) (tgt := 135) S.1 S.2.1 dX11_ruleOf_79 (by rw [hc2]; decide) (by rw [hc2]; decide) (by rw [hc2]; decide) (by decide) ?_
            refine lv_iconst (v := (0 : Int32)) S.1 S.2.1 dX11_ruleOf_135 (by decide) ?_
            obtain rfl := Option.some.inj hF
            exact rr_i S hr hlk hW rfl rfl dX11_ruleOf_136
          · have hF := it_neg hc2 hF
            rcases Classical.em (a1 = (3 : Int32)) with hc3 | hc3
            · have hF := it_pos hc3 hF
              refine lv_tableIn (off := 56) (tgt := 135) S.1 S.2.1 dX11_ruleOf_79 (by rw [hc3]; decide) (by rw [hc3]; decide) (by rw [hc3]; decide) (by decide) ?_
              refine lv_iconst (v := (0 : Int32)) S.1 S.2.1 dX11_ruleOf_135 (by decide) ?_
              obtain rfl := Option.some.inj hF
              exact rr_i S hr hlk hW rfl rfl dX11_ruleOf_136
            · have hF := it_neg hc3 hF
              rcases Classical.em (a1 = (4 : Int32)) with hc4 | hc4
              · have hF := it_pos hc4 hF
                refine lv_tableIn (off := 56) (tgt := 135) S.1 S.2.1 dX11_ruleOf_79 (by rw [hc4]; decide) (by rw [hc4]; decide) (by rw [hc4]; decide) (by decide) ?_
                refine lv_iconst (v := (0 : Int32)) S.1 S.2.1 dX11_ruleOf_135 (by decide) ?_
                obtain rfl := Option.some.inj hF
                exact rr_i S hr hlk hW rfl rfl dX11_ruleOf_136
              · have hF := it_neg hc4 hF
                rcases Classical.em (a1 = (5 : Int32)) with hc5 | hc5
                · have hF := it_pos hc5 hF
                  refine lv_tableIn (off := 48) (tgt := 127) S.1 S.2.1 dX11_ruleOf_79 (by rw [hc5]; decide) (by rw [hc5]; decide) (by rw [hc5]; decide) (by decide) ?_
                  refine lv_iconst (v := (3 : Int32)) S.1 S.2.1 dX11_ruleOf_127 (by decide) ?_
                  obtain rfl := Option.some.inj hF
                  exact rr_i S hr hlk hW rfl rfl dX11_ruleOf_128
                · have hF := it_neg hc5 hF
                  rcases Classical.em (a1 = (6 : Int32)) with hc6 | hc6
                  · have hF := it_pos hc6 hF
                    refine lv_tableIn (off := 50) (tgt := 129) S.1 S.2.1 dX11_ruleOf_79 (by rw [hc6]; decide) (by rw [hc6]; decide) (by rw [hc6]; decide) (by decide) ?_
                    refine lv_bipush (v := (6 : Int32)) S.1 S.2.1 dX11_ruleOf_129 (by decide) ?_
                    obtain rfl := Option.some.inj hF
                    exact rr_i S hr hlk hW rfl rfl dX11_ruleOf_131
                  · have hF := it_neg hc6 hF
                    rcases Classical.em (a1 = (7 : Int32)) with hc7 | hc7
                    · have hF := it_pos hc7 hF
                      refine lv_tableIn (off := 53) (tgt := 132) S.1 S.2.1 dX11_ruleOf_79 (by rw [hc7]; decide) (by rw [hc7]; decide) (by rw [hc7]; decide) (by decide) ?_
                      refine lv_bipush (v := (50 : Int32)) S.1 S.2.1 dX11_ruleOf_132 (by decide) ?_
                      obtain rfl := Option.some.inj hF
                      exact rr_i S hr hlk hW rfl rfl dX11_ruleOf_134
                    · have hF := it_neg hc7 hF
                      have n0 := sw_ne hc0
                      have n1 := sw_ne hc1
                      have n2 := sw_ne hc2
                      have n3 := sw_ne hc3
                      have n4 := sw_ne hc4
                      have n5 := sw_ne hc5
                      have n6 := sw_ne hc6
                      have n7 := sw_ne hc7
                      refine lv_tableOut (tgt := 135) S.1 S.2.1 dX11_ruleOf_79 (by simp only [tI_0, tI_1, tI_2, tI_3, tI_4, tI_5, tI_6, tI_7] at n0 n1 n2 n3 n4 n5 n6 n7; omega) (by decide) ?_
                      refine lv_iconst (v := (0 : Int32)) S.1 S.2.1 dX11_ruleOf_135 (by decide) ?_
                      obtain rfl := Option.some.inj hF
                      exact rr_i S hr hlk hW rfl rfl dX11_ruleOf_136
    · have hF := it_neg hc hF
      refine lv_aload_n S.1 S.2.1 dX11_ruleOf_71 rfl (lv_at hl 0 rfl) ?_
      refine rg_ruleValue S hW dX11_ruleOf_72 ?_
      refine lv_iload_n S.1 S.2.1 dX11_ruleOf_75 rfl (lv_at hl 2 rfl) ?_
      obtain ⟨h6, hF⟩ := gd_of hF
      refine rl_ruleValue S hW h6 dX11_ruleOf_76 ?_
      obtain rfl := Option.some.inj hF
      exact rr_i S hr hlk hW rfl rfl dX11_ruleOf_77
  · refine lpW (fun (xu1 : Int32 × Int32) H locs ls => lv_has ls 5 [(0, .ref (ad 35)), (1, .int a1), (2, .int a2), (3, .int xu1.1), (4, .int xu1.2)] ∧ RW D ad cA kk σ s (RA ad) H locs) 5 (fun n xu1 => fR_ruleOf_L5 σ a1 a2 n xu1.1 xu1.2) u1 (fun _ => rfl) (fun n xu1 ihu1 hF H locs ls hJ => ?_) 1000 ((-1 : Int32), (0 : Int32)) hX _ _ _ ⟨lv_sub hl [2, 3, 4, 1, 0] rfl, hW⟩
    obtain ⟨hl, hW⟩ := hJ
    have hF : fR_ruleOf_L5 σ a1 a2 (n + 1) xu1.1 xu1.2 = some u1 := hF
    rw [fR_ruleOf_L5] at hF
    refine lv_iload S.1 S.2.1 dX11_ruleOf_5 (lv_at hl 4 rfl) ?_
    refine lv_aload_n S.1 S.2.1 dX11_ruleOf_7 rfl (lv_at hl 0 rfl) ?_
    refine rg_rules S hW dX11_ruleOf_8 ?_
    refine lv_icmp_ge (tgt := 66) S.1 S.2.1 dX11_ruleOf_11 (by decide) (fun hc => ?_) (fun hc => ?_)
    · have hF := it_pos hc hF
      obtain rfl := Option.some.inj hF
      exact Ju1 _ _ _ ⟨lv_sub hl [0, 1, 3] rfl, hW⟩
    · have hF := it_neg hc hF
      refine lv_aload_n S.1 S.2.1 dX11_ruleOf_14 rfl (lv_at hl 0 rfl) ?_
      refine rg_ruleName S hW dX11_ruleOf_15 ?_
      refine lv_iload S.1 S.2.1 dX11_ruleOf_18 (lv_at hl 4 rfl) ?_
      obtain ⟨h3, hF⟩ := gd_of hF
      refine rl_ruleName S hW h3 dX11_ruleOf_20 ?_
      refine lv_iload_n S.1 S.2.1 dX11_ruleOf_21 rfl (lv_at hl 1 rfl) ?_
      obtain ⟨u4, hX, hF⟩ := bd_of hF
      refine jn1 (fun H locs ls => lv_has ls 5 [(0, .ref (ad 35)), (1, .int a1), (2, .int a2), (3, .int u4), (4, .int xu1.2)] ∧ RW D ad cA kk σ s (RA ad) H locs) 60 [] (fun H locs ls hJ => ?_) (fun Ju4 => ?_)
      · obtain ⟨hl, hW⟩ := hJ
        refine lv_iinc (v := (xu1.2 + (1 : Int32))) (lv' := [(4, .int ((xu1.2 + (1 : Int32)))), (0, .ref (ad 35)), (1, .int a1), (2, .int a2), (3, .int u4)]) S.1 S.2.1 dX11_ruleOf_60 hl (k := 4) rfl rfl (by decide) rfl (fun ls hl => ?_)
        refine lv_goto (tgt := 5) S.1 S.2.1 dX11_ruleOf_63 (by decide) ?_
        exact ihu1 (u4, (xu1.2 + (1 : Int32))) hF _ _ _ ⟨lv_sub hl [1, 2, 3, 4, 0] rfl, hW⟩
      · have hF := hX
        refine lv_icmp_ne (tgt := 60) S.1 S.2.1 dX11_ruleOf_22 (by decide) (fun hc => ?_) (fun hc => ?_)
        · have hF := it_neg hc hF
          obtain rfl := Option.some.inj hF
          exact Ju4 _ _ _ ⟨lv_sub hl [0, 1, 2, 3, 4] rfl, hW⟩
        · have hF := it_pos hc hF
          refine lv_aload_n S.1 S.2.1 dX11_ruleOf_25 rfl (lv_at hl 0 rfl) ?_
          refine rg_ruleFrom S hW dX11_ruleOf_26 ?_
          refine lv_iload S.1 S.2.1 dX11_ruleOf_29 (lv_at hl 4 rfl) ?_
          refine rl_ruleFrom S hW h3 dX11_ruleOf_31 ?_
          refine lv_iload_n S.1 S.2.1 dX11_ruleOf_32 rfl (lv_at hl 2 rfl) ?_
          refine lv_icmp_gt (tgt := 60) S.1 S.2.1 dX11_ruleOf_33 (by decide) (fun hc => ?_) (fun hc => ?_)
          · have hF := it_pos hc hF
            obtain rfl := Option.some.inj hF
            exact Ju4 _ _ _ ⟨lv_sub hl [0, 1, 2, 3, 4] rfl, hW⟩
          · have hF := it_neg hc hF
            refine lv_iload_n S.1 S.2.1 dX11_ruleOf_36 rfl (lv_at hl 3 rfl) ?_
            refine lv_iconst (v := (-1 : Int32)) S.1 S.2.1 dX11_ruleOf_37 (by decide) ?_
            refine lv_icmp_eq (tgt := 57) S.1 S.2.1 dX11_ruleOf_38 (by decide) (fun hc => ?_) (fun hc => ?_)
            · have hF := it_pos hc hF
              refine lv_iload S.1 S.2.1 dX11_ruleOf_57 (lv_at hl 4 rfl) ?_
              refine lv_istore_n (lv' := [(3, .int xu1.2), (0, .ref (ad 35)), (1, .int a1), (2, .int a2), (4, .int xu1.2)]) S.1 S.2.1 dX11_ruleOf_59 rfl hl (by decide) rfl (fun ls hl => ?_)
              obtain rfl := Option.some.inj hF
              exact Ju4 _ _ _ ⟨lv_sub hl [1, 2, 3, 0, 4] rfl, hW⟩
            · have hF := it_neg hc hF
              refine lv_aload_n S.1 S.2.1 dX11_ruleOf_41 rfl (lv_at hl 0 rfl) ?_
              refine rg_ruleFrom S hW dX11_ruleOf_42 ?_
              refine lv_iload S.1 S.2.1 dX11_ruleOf_45 (lv_at hl 4 rfl) ?_
              refine rl_ruleFrom S hW h3 dX11_ruleOf_47 ?_
              refine lv_aload_n S.1 S.2.1 dX11_ruleOf_48 rfl (lv_at hl 0 rfl) ?_
              refine rg_ruleFrom S hW dX11_ruleOf_49 ?_
              refine lv_iload_n S.1 S.2.1 dX11_ruleOf_52 rfl (lv_at hl 3 rfl) ?_
              obtain ⟨h5, hF⟩ := gd_of hF
              refine rl_ruleFrom S hW h5 dX11_ruleOf_53 ?_
              refine lv_icmp_lt (tgt := 60) S.1 S.2.1 dX11_ruleOf_54 (by decide) (fun hc => ?_) (fun hc => ?_)
              · have hF := it_pos hc hF
                obtain rfl := Option.some.inj hF
                exact Ju4 _ _ _ ⟨lv_sub hl [0, 1, 2, 3, 4] rfl, hW⟩
              · have hF := it_neg hc hF
                refine lv_iload S.1 S.2.1 dX11_ruleOf_57 (lv_at hl 4 rfl) ?_
                refine lv_istore_n (lv' := [(3, .int xu1.2), (0, .ref (ad 35)), (1, .int a1), (2, .int a2), (4, .int xu1.2)]) S.1 S.2.1 dX11_ruleOf_59 rfl hl (by decide) rfl (fun ls hl => ?_)
                obtain rfl := Option.some.inj hF
                exact Ju4 _ _ _ ⟨lv_sub hl [1, 2, 3, 0, 4] rfl, hW⟩
def fR_lag (σ : SR) (a1 : Int32) (a2 : Int32) : Option (Int32 × SR) :=
  Option.bind (fR_in a1 ((0 : Int32)) ((9 : Int32))) (fun u1 =>
  if u1 = 0 then
  some ((0 : Int32), pz σ 31 ((0 : Int32)))
  else
  Option.bind (fR_in a2 ((0 : Int32)) ((20 : Int32))) (fun u2 =>
  if u2 = 0 then
  some ((0 : Int32), pz σ 31 ((0 : Int32)))
  else
  if a1 < 0 ∨ 10 ≤ (a1).toNatClampNeg then none else
  some ((1 : Int32), pf (pz σ 31 ((0 : Int32))) 8 (a1).toNatClampNeg a2)))
set_option maxRecDepth 100000 in
set_option maxHeartbeats 4000000 in
theorem cR_lag (l : Launch) (D : va_G) (ad : Nat → Nat) (cA : Nat → ClassId) (kk : Nat → Nat) (hd : RD ad) {σ : SR} {a1 : Int32} {a2 : Int32} {o : Int32 × SR} (hF : fR_lag σ a1 a2 = some o) : Mi l yX11_lag cX11_lag 3 .boolean { frames := 1, cells := 0, slots := 0, locals := 22 } [.ref (ad 35), .int a1, .int a2] (RP D ad cA kk σ) o.1 (RP D ad cA kk (o.2)) (RA ad) := by
  refine Mi.of (own := RX11) rfl (by decide +kernel) (Nat.le_of_ble_eq_true rfl) ?_
  intro p e s m args below meth c ls S hr hlk hP hl
  have hW := RW.start hd hP
  have hl : lv_has ls 3 [(0, .ref (ad 35)), (1, .int a1), (2, .int a2)] := hl
  rw [fR_lag] at hF
  refine lv_aload_n S.1 S.2.1 dX11_lag_0 rfl (lv_at hl 0 rfl) ?_
  refine lv_iconst (v := (0 : Int32)) S.1 S.2.1 dX11_lag_1 (by decide) ?_
  refine rp_thrown S hW dX11_lag_2 (fun H locs hW => ?_)
  refine lv_iload_n S.1 S.2.1 dX11_lag_5 rfl (lv_at hl 1 rfl) ?_
  refine lv_iconst (v := (0 : Int32)) S.1 S.2.1 dX11_lag_6 (by decide) ?_
  refine lv_bipush (v := (9 : Int32)) S.1 S.2.1 dX11_lag_7 (by decide) ?_
  obtain ⟨u1, hu1, hF⟩ := bd_of hF
  refine sc_i (k := 3) (As := [.int a1, .int ((0 : Int32)), .int ((9 : Int32))]) (rest := []) (cR_in l hu1) S (gd_S m_391 m_392 m_5 m_393) rfl rfl (by decide +kernel) ⟨Nat.le_of_ble_eq_true rfl, Nat.le_of_ble_eq_true rfl⟩ rfl hl.1 rfl (Nat.le_of_ble_eq_true rfl) ⟨Nat.le_of_ble_eq_true rfl, Nat.le_of_ble_eq_true rfl⟩ dX11_lag_9 ?_
  refine lv_if_eq (tgt := 25) S.1 S.2.1 dX11_lag_12 (by decide) (fun hc => ?_) (fun hc => ?_)
  · have hF := it_pos hc hF
    refine lv_iconst (v := (0 : Int32)) S.1 S.2.1 dX11_lag_25 (by decide) ?_
    obtain rfl := Option.some.inj hF
    exact rr_i S hr hlk hW rfl rfl dX11_lag_26
  · have hF := it_neg hc hF
    refine lv_iload_n S.1 S.2.1 dX11_lag_15 rfl (lv_at hl 2 rfl) ?_
    refine lv_iconst (v := (0 : Int32)) S.1 S.2.1 dX11_lag_16 (by decide) ?_
    refine lv_bipush (v := (20 : Int32)) S.1 S.2.1 dX11_lag_17 (by decide) ?_
    obtain ⟨u2, hu2, hF⟩ := bd_of hF
    refine sc_i (k := 3) (As := [.int a2, .int ((0 : Int32)), .int ((20 : Int32))]) (rest := []) (cR_in l hu2) S (gd_S m_391 m_392 m_5 m_393) rfl rfl (by decide +kernel) ⟨Nat.le_of_ble_eq_true rfl, Nat.le_of_ble_eq_true rfl⟩ rfl hl.1 rfl (Nat.le_of_ble_eq_true rfl) ⟨Nat.le_of_ble_eq_true rfl, Nat.le_of_ble_eq_true rfl⟩ dX11_lag_19 ?_
    refine lv_if_ne (tgt := 27) S.1 S.2.1 dX11_lag_22 (by decide) (fun hc => ?_) (fun hc => ?_)
    · have hF := it_neg hc hF
      refine lv_aload_n S.1 S.2.1 dX11_lag_27 rfl (lv_at hl 0 rfl) ?_
      refine rg_lags S hW dX11_lag_28 ?_
      refine lv_iload_n S.1 S.2.1 dX11_lag_31 rfl (lv_at hl 1 rfl) ?_
      refine lv_iload_n S.1 S.2.1 dX11_lag_32 rfl (lv_at hl 2 rfl) ?_
      obtain ⟨h3, hF⟩ := gd_of hF
      refine rs_lags S hW h3 dX11_lag_33 (fun H locs hW => ?_)
      refine lv_iconst (v := (1 : Int32)) S.1 S.2.1 dX11_lag_34 (by decide) ?_
      obtain rfl := Option.some.inj hF
      exact rr_i S hr hlk hW rfl rfl dX11_lag_35
    · have hF := it_pos hc hF
      refine lv_iconst (v := (0 : Int32)) S.1 S.2.1 dX11_lag_25 (by decide) ?_
      obtain rfl := Option.some.inj hF
      exact rr_i S hr hlk hW rfl rfl dX11_lag_26
def fR_enter (σ : SR) (a1 : Int32) (a2 : Int32) (a3 : Int64) : Option (SR) :=
  if (gz σ 27) < 0 ∨ 900 ≤ ((gz σ 27)).toNatClampNeg then none else
  if (gz (pf σ 22 ((gz σ 27)).toNatClampNeg a1) 27) < 0 ∨ 900 ≤ ((gz (pf σ 22 ((gz σ 27)).toNatClampNeg a1) 27)).toNatClampNeg then none else
  if (gz (pf (pf σ 22 ((gz σ 27)).toNatClampNeg a1) 23 ((gz (pf σ 22 ((gz σ 27)).toNatClampNeg a1) 27)).toNatClampNeg ((gz (pf σ 22 ((gz σ 27)).toNatClampNeg a1) 20))) 27) < 0 ∨ 900 ≤ ((gz (pf (pf σ 22 ((gz σ 27)).toNatClampNeg a1) 23 ((gz (pf σ 22 ((gz σ 27)).toNatClampNeg a1) 27)).toNatClampNeg ((gz (pf σ 22 ((gz σ 27)).toNatClampNeg a1) 20))) 27)).toNatClampNeg then none else
  if (gz (pf (pf (pf σ 22 ((gz σ 27)).toNatClampNeg a1) 23 ((gz (pf σ 22 ((gz σ 27)).toNatClampNeg a1) 27)).toNatClampNeg ((gz (pf σ 22 ((gz σ 27)).toNatClampNeg a1) 20))) 24 ((gz (pf (pf σ 22 ((gz σ 27)).toNatClampNeg a1) 23 ((gz (pf σ 22 ((gz σ 27)).toNatClampNeg a1) 27)).toNatClampNeg ((gz (pf σ 22 ((gz σ 27)).toNatClampNeg a1) 20))) 27)).toNatClampNeg a2) 27) < 0 ∨ 900 ≤ ((gz (pf (pf (pf σ 22 ((gz σ 27)).toNatClampNeg a1) 23 ((gz (pf σ 22 ((gz σ 27)).toNatClampNeg a1) 27)).toNatClampNeg ((gz (pf σ 22 ((gz σ 27)).toNatClampNeg a1) 20))) 24 ((gz (pf (pf σ 22 ((gz σ 27)).toNatClampNeg a1) 23 ((gz (pf σ 22 ((gz σ 27)).toNatClampNeg a1) 27)).toNatClampNeg ((gz (pf σ 22 ((gz σ 27)).toNatClampNeg a1) 20))) 27)).toNatClampNeg a2) 27)).toNatClampNeg then none else
  if (gz (pg (pf (pf (pf σ 22 ((gz σ 27)).toNatClampNeg a1) 23 ((gz (pf σ 22 ((gz σ 27)).toNatClampNeg a1) 27)).toNatClampNeg ((gz (pf σ 22 ((gz σ 27)).toNatClampNeg a1) 20))) 24 ((gz (pf (pf σ 22 ((gz σ 27)).toNatClampNeg a1) 23 ((gz (pf σ 22 ((gz σ 27)).toNatClampNeg a1) 27)).toNatClampNeg ((gz (pf σ 22 ((gz σ 27)).toNatClampNeg a1) 20))) 27)).toNatClampNeg a2) ((gz (pf (pf (pf σ 22 ((gz σ 27)).toNatClampNeg a1) 23 ((gz (pf σ 22 ((gz σ 27)).toNatClampNeg a1) 27)).toNatClampNeg ((gz (pf σ 22 ((gz σ 27)).toNatClampNeg a1) 20))) 24 ((gz (pf (pf σ 22 ((gz σ 27)).toNatClampNeg a1) 23 ((gz (pf σ 22 ((gz σ 27)).toNatClampNeg a1) 27)).toNatClampNeg ((gz (pf σ 22 ((gz σ 27)).toNatClampNeg a1) 20))) 27)).toNatClampNeg a2) 27)).toNatClampNeg a3) 27) < 0 ∨ 900 ≤ ((gz (pg (pf (pf (pf σ 22 ((gz σ 27)).toNatClampNeg a1) 23 ((gz (pf σ 22 ((gz σ 27)).toNatClampNeg a1) 27)).toNatClampNeg ((gz (pf σ 22 ((gz σ 27)).toNatClampNeg a1) 20))) 24 ((gz (pf (pf σ 22 ((gz σ 27)).toNatClampNeg a1) 23 ((gz (pf σ 22 ((gz σ 27)).toNatClampNeg a1) 27)).toNatClampNeg ((gz (pf σ 22 ((gz σ 27)).toNatClampNeg a1) 20))) 27)).toNatClampNeg a2) ((gz (pf (pf (pf σ 22 ((gz σ 27)).toNatClampNeg a1) 23 ((gz (pf σ 22 ((gz σ 27)).toNatClampNeg a1) 27)).toNatClampNeg ((gz (pf σ 22 ((gz σ 27)).toNatClampNeg a1) 20))) 24 ((gz (pf (pf σ 22 ((gz σ 27)).toNatClampNeg a1) 23 ((gz (pf σ 22 ((gz σ 27)).toNatClampNeg a1) 27)).toNatClampNeg ((gz (pf σ 22 ((gz σ 27)).toNatClampNeg a1) 20))) 27)).toNatClampNeg a2) 27)).toNatClampNeg a3) 27)).toNatClampNeg then none else
  some (pz (pf (pg (pf (pf (pf σ 22 ((gz σ 27)).toNatClampNeg a1) 23 ((gz (pf σ 22 ((gz σ 27)).toNatClampNeg a1) 27)).toNatClampNeg ((gz (pf σ 22 ((gz σ 27)).toNatClampNeg a1) 20))) 24 ((gz (pf (pf σ 22 ((gz σ 27)).toNatClampNeg a1) 23 ((gz (pf σ 22 ((gz σ 27)).toNatClampNeg a1) 27)).toNatClampNeg ((gz (pf σ 22 ((gz σ 27)).toNatClampNeg a1) 20))) 27)).toNatClampNeg a2) ((gz (pf (pf (pf σ 22 ((gz σ 27)).toNatClampNeg a1) 23 ((gz (pf σ 22 ((gz σ 27)).toNatClampNeg a1) 27)).toNatClampNeg ((gz (pf σ 22 ((gz σ 27)).toNatClampNeg a1) 20))) 24 ((gz (pf (pf σ 22 ((gz σ 27)).toNatClampNeg a1) 23 ((gz (pf σ 22 ((gz σ 27)).toNatClampNeg a1) 27)).toNatClampNeg ((gz (pf σ 22 ((gz σ 27)).toNatClampNeg a1) 20))) 27)).toNatClampNeg a2) 27)).toNatClampNeg a3) 26 ((gz (pg (pf (pf (pf σ 22 ((gz σ 27)).toNatClampNeg a1) 23 ((gz (pf σ 22 ((gz σ 27)).toNatClampNeg a1) 27)).toNatClampNeg ((gz (pf σ 22 ((gz σ 27)).toNatClampNeg a1) 20))) 24 ((gz (pf (pf σ 22 ((gz σ 27)).toNatClampNeg a1) 23 ((gz (pf σ 22 ((gz σ 27)).toNatClampNeg a1) 27)).toNatClampNeg ((gz (pf σ 22 ((gz σ 27)).toNatClampNeg a1) 20))) 27)).toNatClampNeg a2) ((gz (pf (pf (pf σ 22 ((gz σ 27)).toNatClampNeg a1) 23 ((gz (pf σ 22 ((gz σ 27)).toNatClampNeg a1) 27)).toNatClampNeg ((gz (pf σ 22 ((gz σ 27)).toNatClampNeg a1) 20))) 24 ((gz (pf (pf σ 22 ((gz σ 27)).toNatClampNeg a1) 23 ((gz (pf σ 22 ((gz σ 27)).toNatClampNeg a1) 27)).toNatClampNeg ((gz (pf σ 22 ((gz σ 27)).toNatClampNeg a1) 20))) 27)).toNatClampNeg a2) 27)).toNatClampNeg a3) 27)).toNatClampNeg ((-1 : Int32))) 27 (((gz (pf (pg (pf (pf (pf σ 22 ((gz σ 27)).toNatClampNeg a1) 23 ((gz (pf σ 22 ((gz σ 27)).toNatClampNeg a1) 27)).toNatClampNeg ((gz (pf σ 22 ((gz σ 27)).toNatClampNeg a1) 20))) 24 ((gz (pf (pf σ 22 ((gz σ 27)).toNatClampNeg a1) 23 ((gz (pf σ 22 ((gz σ 27)).toNatClampNeg a1) 27)).toNatClampNeg ((gz (pf σ 22 ((gz σ 27)).toNatClampNeg a1) 20))) 27)).toNatClampNeg a2) ((gz (pf (pf (pf σ 22 ((gz σ 27)).toNatClampNeg a1) 23 ((gz (pf σ 22 ((gz σ 27)).toNatClampNeg a1) 27)).toNatClampNeg ((gz (pf σ 22 ((gz σ 27)).toNatClampNeg a1) 20))) 24 ((gz (pf (pf σ 22 ((gz σ 27)).toNatClampNeg a1) 23 ((gz (pf σ 22 ((gz σ 27)).toNatClampNeg a1) 27)).toNatClampNeg ((gz (pf σ 22 ((gz σ 27)).toNatClampNeg a1) 20))) 27)).toNatClampNeg a2) 27)).toNatClampNeg a3) 26 ((gz (pg (pf (pf (pf σ 22 ((gz σ 27)).toNatClampNeg a1) 23 ((gz (pf σ 22 ((gz σ 27)).toNatClampNeg a1) 27)).toNatClampNeg ((gz (pf σ 22 ((gz σ 27)).toNatClampNeg a1) 20))) 24 ((gz (pf (pf σ 22 ((gz σ 27)).toNatClampNeg a1) 23 ((gz (pf σ 22 ((gz σ 27)).toNatClampNeg a1) 27)).toNatClampNeg ((gz (pf σ 22 ((gz σ 27)).toNatClampNeg a1) 20))) 27)).toNatClampNeg a2) ((gz (pf (pf (pf σ 22 ((gz σ 27)).toNatClampNeg a1) 23 ((gz (pf σ 22 ((gz σ 27)).toNatClampNeg a1) 27)).toNatClampNeg ((gz (pf σ 22 ((gz σ 27)).toNatClampNeg a1) 20))) 24 ((gz (pf (pf σ 22 ((gz σ 27)).toNatClampNeg a1) 23 ((gz (pf σ 22 ((gz σ 27)).toNatClampNeg a1) 27)).toNatClampNeg ((gz (pf σ 22 ((gz σ 27)).toNatClampNeg a1) 20))) 27)).toNatClampNeg a2) 27)).toNatClampNeg a3) 27)).toNatClampNeg ((-1 : Int32))) 27) + (1 : Int32))))
set_option maxRecDepth 100000 in
set_option maxHeartbeats 4000000 in
theorem cR_enter (l : Launch) (D : va_G) (ad : Nat → Nat) (cA : Nat → ClassId) (kk : Nat → Nat) (hd : RD ad) {σ : SR} {a1 : Int32} {a2 : Int32} {a3 : Int64} {o : SR} (hF : fR_enter σ a1 a2 a3 = some o) : Mv l yX11_enter cX11_enter 5 { frames := 0, cells := 0, slots := 0, locals := 0 } [.ref (ad 35), .int a1, .int a2, .long a3] (RP D ad cA kk σ) (RP D ad cA kk o) (RA ad) := by
  refine Mv.of (own := RX11) rfl (by decide +kernel) (Nat.le_of_ble_eq_true rfl) ?_
  intro p e s m args below meth c ls S hr hlk hP hl _
  have hW := RW.start hd hP
  have hl : lv_has ls 5 [(0, .ref (ad 35)), (1, .int a1), (2, .int a2), (3, .long a3)] := hl
  rw [fR_enter] at hF
  refine lv_aload_n S.1 S.2.1 dX11_enter_0 rfl (lv_at hl 0 rfl) ?_
  refine rg_entryMember S hW dX11_enter_1 ?_
  refine lv_aload_n S.1 S.2.1 dX11_enter_4 rfl (lv_at hl 0 rfl) ?_
  refine rg_entries S hW dX11_enter_5 ?_
  refine lv_iload_n S.1 S.2.1 dX11_enter_8 rfl (lv_at hl 1 rfl) ?_
  obtain ⟨h1, hF⟩ := gd_of hF
  refine rs_entryMember S hW h1 dX11_enter_9 (fun H locs hW => ?_)
  refine lv_aload_n S.1 S.2.1 dX11_enter_10 rfl (lv_at hl 0 rfl) ?_
  refine rg_entryMonth S hW dX11_enter_11 ?_
  refine lv_aload_n S.1 S.2.1 dX11_enter_14 rfl (lv_at hl 0 rfl) ?_
  refine rg_entries S hW dX11_enter_15 ?_
  refine lv_aload_n S.1 S.2.1 dX11_enter_18 rfl (lv_at hl 0 rfl) ?_
  refine rg_month S hW dX11_enter_19 ?_
  obtain ⟨h2, hF⟩ := gd_of hF
  refine rs_entryMonth S hW h2 dX11_enter_22 (fun H locs hW => ?_)
  refine lv_aload_n S.1 S.2.1 dX11_enter_23 rfl (lv_at hl 0 rfl) ?_
  refine rg_entrySort S hW dX11_enter_24 ?_
  refine lv_aload_n S.1 S.2.1 dX11_enter_27 rfl (lv_at hl 0 rfl) ?_
  refine rg_entries S hW dX11_enter_28 ?_
  refine lv_iload_n S.1 S.2.1 dX11_enter_31 rfl (lv_at hl 2 rfl) ?_
  obtain ⟨h3, hF⟩ := gd_of hF
  refine rs_entrySort S hW h3 dX11_enter_32 (fun H locs hW => ?_)
  refine lv_aload_n S.1 S.2.1 dX11_enter_33 rfl (lv_at hl 0 rfl) ?_
  refine rg_entryAmount S hW dX11_enter_34 ?_
  refine lv_aload_n S.1 S.2.1 dX11_enter_37 rfl (lv_at hl 0 rfl) ?_
  refine rg_entries S hW dX11_enter_38 ?_
  refine lv_lload_n S.1 S.2.1 dX11_enter_41 rfl (lv_at hl 3 rfl) ?_
  obtain ⟨h4, hF⟩ := gd_of hF
  refine rs_entryAmount S hW h4 dX11_enter_42 (fun H locs hW => ?_)
  refine lv_aload_n S.1 S.2.1 dX11_enter_43 rfl (lv_at hl 0 rfl) ?_
  refine rg_struck S hW dX11_enter_44 ?_
  refine lv_aload_n S.1 S.2.1 dX11_enter_47 rfl (lv_at hl 0 rfl) ?_
  refine rg_entries S hW dX11_enter_48 ?_
  refine lv_iconst (v := (-1 : Int32)) S.1 S.2.1 dX11_enter_51 (by decide) ?_
  obtain ⟨h5, hF⟩ := gd_of hF
  refine rs_struck S hW h5 dX11_enter_52 (fun H locs hW => ?_)
  refine lv_aload_n S.1 S.2.1 dX11_enter_53 rfl (lv_at hl 0 rfl) ?_
  refine lv_dup S.1 S.2.1 dX11_enter_54 rfl ?_
  refine rg_entries S hW dX11_enter_55 ?_
  refine lv_iconst (v := (1 : Int32)) S.1 S.2.1 dX11_enter_58 (by decide) ?_
  refine lv_iadd S.1 S.2.1 dX11_enter_59 ?_
  refine rp_entries S hW dX11_enter_60 (fun H locs hW => ?_)
  obtain rfl := Option.some.inj hF
  exact rr_v S hr hlk hW dX11_enter_63
def fR_isMember (σ : SR) (a1 : Int32) : Option (Int32) :=
  Option.bind (fR_in a1 ((0 : Int32)) (((gz σ 19) - (1 : Int32)))) (fun u1 =>
  if u1 = 0 ∨ u1 = 1 then some u1 else none)
set_option maxRecDepth 100000 in
set_option maxHeartbeats 4000000 in
theorem cR_isMember (l : Launch) (D : va_G) (ad : Nat → Nat) (cA : Nat → ClassId) (kk : Nat → Nat) (hd : RD ad) {σ : SR} {a1 : Int32} {o : Int32} (hF : fR_isMember σ a1 = some o) : Mi l yX11_isMember cX11_isMember 2 .boolean { frames := 1, cells := 0, slots := 0, locals := 22 } [.ref (ad 35), .int a1] (RP D ad cA kk σ) o (RP D ad cA kk σ) (RA ad) := by
  refine Mi.of (own := RX11) rfl (by decide +kernel) (Nat.le_of_ble_eq_true rfl) ?_
  intro p e s m args below meth c ls S hr hlk hP hl
  have hW := RW.start hd hP
  have hl : lv_has ls 2 [(0, .ref (ad 35)), (1, .int a1)] := hl
  rw [fR_isMember] at hF
  refine lv_iload_n S.1 S.2.1 dX11_isMember_0 rfl (lv_at hl 1 rfl) ?_
  refine lv_iconst (v := (0 : Int32)) S.1 S.2.1 dX11_isMember_1 (by decide) ?_
  refine lv_aload_n S.1 S.2.1 dX11_isMember_2 rfl (lv_at hl 0 rfl) ?_
  refine rg_members S hW dX11_isMember_3 ?_
  refine lv_iconst (v := (1 : Int32)) S.1 S.2.1 dX11_isMember_6 (by decide) ?_
  refine lv_isub S.1 S.2.1 dX11_isMember_7 ?_
  obtain ⟨u1, hu1, hF⟩ := bd_of hF
  refine sc_i (k := 3) (As := [.int a1, .int ((0 : Int32)), .int (((gz σ 19) - (1 : Int32)))]) (rest := []) (cR_in l hu1) S (gd_S m_391 m_392 m_5 m_393) rfl rfl (by decide +kernel) ⟨Nat.le_of_ble_eq_true rfl, Nat.le_of_ble_eq_true rfl⟩ rfl hl.1 rfl (Nat.le_of_ble_eq_true rfl) ⟨Nat.le_of_ble_eq_true rfl, Nat.le_of_ble_eq_true rfl⟩ dX11_isMember_8 ?_
  obtain ⟨hb, hF⟩ := gt_of hF
  obtain rfl := Option.some.inj hF
  exact rr_i S hr hlk hW (bool_nar hb) rfl dX11_isMember_11
def fR_balanceOf_L5 (σ : SR) (l1 : Int32) : Nat → Int64 → Int32 → Option (Int64)
  | 0, _, _ => none
  | n + 1, x2, x4 =>
    if (gz σ 27) ≤ x4 then
    some ((x2))
    else
    if x4 < 0 ∨ 900 ≤ (x4).toNatClampNeg then none else
    Option.bind (if (gf σ 22 (x4).toNatClampNeg) = l1 then
    if (gf σ 26 (x4).toNatClampNeg) = (-1 : Int32) then
    some ((x2 + (gg σ (x4).toNatClampNeg)))
    else
    some (x2)
    else
    some (x2)) (fun u2 =>
    fR_balanceOf_L5 σ l1 n u2 ((x4 + (1 : Int32))))
def fR_balanceOf (σ : SR) (a1 : Int32) : Option (Int64) :=
  Option.bind (fR_balanceOf_L5 σ a1 1000 ((0 : Int64)) ((0 : Int32))) (fun u1 =>
  some u1)
set_option maxRecDepth 100000 in
set_option maxHeartbeats 4000000 in
theorem cR_balanceOf (l : Launch) (D : va_G) (ad : Nat → Nat) (cA : Nat → ClassId) (kk : Nat → Nat) (hd : RD ad) {σ : SR} {a1 : Int32} {o : Int64} (hF : fR_balanceOf σ a1 = some o) : Ml l yX11_balanceOf cX11_balanceOf 5 { frames := 0, cells := 0, slots := 0, locals := 0 } [.ref (ad 35), .int a1] (RP D ad cA kk σ) o (RP D ad cA kk σ) (RA ad) := by
  refine Ml.of (own := RX11) rfl (by decide +kernel) (Nat.le_of_ble_eq_true rfl) ?_
  intro p e s m args below meth c ls S hr hlk hP hl
  have hW := RW.start hd hP
  have hl : lv_has ls 5 [(0, .ref (ad 35)), (1, .int a1)] := hl
  rw [fR_balanceOf] at hF
  refine lv_lconst (v := (0 : Int64)) S.1 S.2.1 dX11_balanceOf_0 (by decide) ?_
  refine lv_lstore_n (lv' := [(2, .long ((0 : Int64))), (0, .ref (ad 35)), (1, .int a1)]) S.1 S.2.1 dX11_balanceOf_1 rfl hl (by decide) rfl (fun ls hl => ?_)
  refine lv_iconst (v := (0 : Int32)) S.1 S.2.1 dX11_balanceOf_2 (by decide) ?_
  refine lv_istore (lv' := [(4, .int ((0 : Int32))), (2, .long ((0 : Int64))), (0, .ref (ad 35)), (1, .int a1)]) S.1 S.2.1 dX11_balanceOf_3 hl (by decide) rfl (fun ls hl => ?_)
  obtain ⟨u1, hX, hF⟩ := bd_of hF
  refine jn1 (fun H locs ls => lv_has ls 5 [(2, .long u1)] ∧ RW D ad cA kk σ s (RA ad) H locs) 52 [] (fun H locs ls hJ => ?_) (fun Ju1 => ?_)
  · obtain ⟨hl, hW⟩ := hJ
    refine lv_lload_n S.1 S.2.1 dX11_balanceOf_52 rfl (lv_at hl 0 rfl) ?_
    obtain rfl := Option.some.inj hF
    exact rr_l S hr hlk hW rfl dX11_balanceOf_53
  · refine lpW (fun (xu1 : Int64 × Int32) H locs ls => lv_has ls 5 [(0, .ref (ad 35)), (1, .int a1), (2, .long xu1.1), (4, .int xu1.2)] ∧ RW D ad cA kk σ s (RA ad) H locs) 5 (fun n xu1 => fR_balanceOf_L5 σ a1 n xu1.1 xu1.2) u1 (fun _ => rfl) (fun n xu1 ihu1 hF H locs ls hJ => ?_) 1000 ((0 : Int64), (0 : Int32)) hX _ _ _ ⟨lv_sub hl [2, 3, 1, 0] rfl, hW⟩
    obtain ⟨hl, hW⟩ := hJ
    have hF : fR_balanceOf_L5 σ a1 (n + 1) xu1.1 xu1.2 = some u1 := hF
    rw [fR_balanceOf_L5] at hF
    refine lv_iload S.1 S.2.1 dX11_balanceOf_5 (lv_at hl 3 rfl) ?_
    refine lv_aload_n S.1 S.2.1 dX11_balanceOf_7 rfl (lv_at hl 0 rfl) ?_
    refine rg_entries S hW dX11_balanceOf_8 ?_
    refine lv_icmp_ge (tgt := 52) S.1 S.2.1 dX11_balanceOf_11 (by decide) (fun hc => ?_) (fun hc => ?_)
    · have hF := it_pos hc hF
      obtain rfl := Option.some.inj hF
      exact Ju1 _ _ _ ⟨lv_sub hl [2] rfl, hW⟩
    · have hF := it_neg hc hF
      refine lv_aload_n S.1 S.2.1 dX11_balanceOf_14 rfl (lv_at hl 0 rfl) ?_
      refine rg_entryMember S hW dX11_balanceOf_15 ?_
      refine lv_iload S.1 S.2.1 dX11_balanceOf_18 (lv_at hl 3 rfl) ?_
      obtain ⟨h3, hF⟩ := gd_of hF
      refine rl_entryMember S hW h3 dX11_balanceOf_20 ?_
      refine lv_iload_n S.1 S.2.1 dX11_balanceOf_21 rfl (lv_at hl 1 rfl) ?_
      obtain ⟨u4, hX, hF⟩ := bd_of hF
      refine jn1 (fun H locs ls => lv_has ls 5 [(0, .ref (ad 35)), (1, .int a1), (2, .long u4), (4, .int xu1.2)] ∧ RW D ad cA kk σ s (RA ad) H locs) 46 [] (fun H locs ls hJ => ?_) (fun Ju4 => ?_)
      · obtain ⟨hl, hW⟩ := hJ
        refine lv_iinc (v := (xu1.2 + (1 : Int32))) (lv' := [(4, .int ((xu1.2 + (1 : Int32)))), (0, .ref (ad 35)), (1, .int a1), (2, .long u4)]) S.1 S.2.1 dX11_balanceOf_46 hl (k := 3) rfl rfl (by decide) rfl (fun ls hl => ?_)
        refine lv_goto (tgt := 5) S.1 S.2.1 dX11_balanceOf_49 (by decide) ?_
        exact ihu1 (u4, (xu1.2 + (1 : Int32))) hF _ _ _ ⟨lv_sub hl [1, 2, 3, 0] rfl, hW⟩
      · have hF := hX
        refine lv_icmp_ne (tgt := 46) S.1 S.2.1 dX11_balanceOf_22 (by decide) (fun hc => ?_) (fun hc => ?_)
        · have hF := it_neg hc hF
          obtain rfl := Option.some.inj hF
          exact Ju4 _ _ _ ⟨lv_sub hl [0, 1, 2, 3] rfl, hW⟩
        · have hF := it_pos hc hF
          refine lv_aload_n S.1 S.2.1 dX11_balanceOf_25 rfl (lv_at hl 0 rfl) ?_
          refine rg_struck S hW dX11_balanceOf_26 ?_
          refine lv_iload S.1 S.2.1 dX11_balanceOf_29 (lv_at hl 3 rfl) ?_
          refine rl_struck S hW h3 dX11_balanceOf_31 ?_
          refine lv_iconst (v := (-1 : Int32)) S.1 S.2.1 dX11_balanceOf_32 (by decide) ?_
          refine lv_icmp_ne (tgt := 46) S.1 S.2.1 dX11_balanceOf_33 (by decide) (fun hc => ?_) (fun hc => ?_)
          · have hF := it_neg hc hF
            obtain rfl := Option.some.inj hF
            exact Ju4 _ _ _ ⟨lv_sub hl [0, 1, 2, 3] rfl, hW⟩
          · have hF := it_pos hc hF
            refine lv_lload_n S.1 S.2.1 dX11_balanceOf_36 rfl (lv_at hl 2 rfl) ?_
            refine lv_aload_n S.1 S.2.1 dX11_balanceOf_37 rfl (lv_at hl 0 rfl) ?_
            refine rg_entryAmount S hW dX11_balanceOf_38 ?_
            refine lv_iload S.1 S.2.1 dX11_balanceOf_41 (lv_at hl 3 rfl) ?_
            refine rl_entryAmount S hW h3 dX11_balanceOf_43 ?_
            refine lv_ladd S.1 S.2.1 dX11_balanceOf_44 ?_
            refine lv_lstore_n (lv' := [(2, .long ((xu1.1 + (gg σ (xu1.2).toNatClampNeg)))), (0, .ref (ad 35)), (1, .int a1), (4, .int xu1.2)]) S.1 S.2.1 dX11_balanceOf_45 rfl hl (by decide) rfl (fun ls hl => ?_)
            obtain rfl := Option.some.inj hF
            exact Ju4 _ _ _ ⟨lv_sub hl [1, 2, 0, 3] rfl, hW⟩
def fR_leave (σ : SR) (a1 : Int32) : Option (Int64 × SR) :=
  Option.bind (fR_isMember (pz σ 31 ((0 : Int32))) a1) (fun u1 =>
  if u1 = 0 then
  some ((-1 : Int64), pz σ 31 ((0 : Int32)))
  else
  if a1 < 0 ∨ 40 ≤ (a1).toNatClampNeg then none else
  if (gf (pz σ 31 ((0 : Int32))) 12 (a1).toNatClampNeg) = (2 : Int32) then
  some ((-1 : Int64), pz σ 31 ((0 : Int32)))
  else
  Option.bind (fR_balanceOf (pz σ 31 ((0 : Int32))) a1) (fun u3 =>
  if (lg_cmp u3 (0 : Int64)) ≤ 0 then
  if 0 < (lg_cmp u3 (0 : Int64)) then
  Option.bind (fR_enter (pf (pz σ 31 ((0 : Int32))) 12 (a1).toNatClampNeg ((2 : Int32))) a1 ((6 : Int32)) ((-u3))) (fun u4 =>
  some (u3, u4))
  else
  some ((0 : Int64), pf (pz σ 31 ((0 : Int32))) 12 (a1).toNatClampNeg ((2 : Int32)))
  else
  if (gz (pz σ 31 ((0 : Int32))) 27) = (900 : Int32) then
  some ((-1 : Int64), pz σ 31 ((0 : Int32)))
  else
  if 0 < (lg_cmp u3 (0 : Int64)) then
  Option.bind (fR_enter (pf (pz σ 31 ((0 : Int32))) 12 (a1).toNatClampNeg ((2 : Int32))) a1 ((6 : Int32)) ((-u3))) (fun u5 =>
  some (u3, u5))
  else
  some ((0 : Int64), pf (pz σ 31 ((0 : Int32))) 12 (a1).toNatClampNeg ((2 : Int32)))))
set_option maxRecDepth 100000 in
set_option maxHeartbeats 4000000 in
theorem cR_leave (l : Launch) (D : va_G) (ad : Nat → Nat) (cA : Nat → ClassId) (kk : Nat → Nat) (hd : RD ad) {σ : SR} {a1 : Int32} {o : Int64 × SR} (hF : fR_leave σ a1 = some o) : Ml l yX11_leave cX11_leave 4 { frames := 2, cells := 0, slots := 0, locals := 43 } [.ref (ad 35), .int a1] (RP D ad cA kk σ) o.1 (RP D ad cA kk (o.2)) (RA ad) := by
  refine Ml.of (own := RX11) rfl (by decide +kernel) (Nat.le_of_ble_eq_true rfl) ?_
  intro p e s m args below meth c ls S hr hlk hP hl
  have hW := RW.start hd hP
  have hl : lv_has ls 4 [(0, .ref (ad 35)), (1, .int a1)] := hl
  rw [fR_leave] at hF
  refine lv_aload_n S.1 S.2.1 dX11_leave_0 rfl (lv_at hl 0 rfl) ?_
  refine lv_iconst (v := (0 : Int32)) S.1 S.2.1 dX11_leave_1 (by decide) ?_
  refine rp_thrown S hW dX11_leave_2 (fun H locs hW => ?_)
  refine lv_aload_n S.1 S.2.1 dX11_leave_5 rfl (lv_at hl 0 rfl) ?_
  refine lv_iload_n S.1 S.2.1 dX11_leave_6 rfl (lv_at hl 1 rfl) ?_
  obtain ⟨u1, hu1, hF⟩ := bd_of hF
  refine rc_i (k := 1) (As := [.int a1]) (rest := []) (cR_isMember l D ad cA kk hd hu1) hd (fun _ h => h) S hW (gd_V m_600 m_601 m_602 m_5 m_603) (by decide +kernel) ⟨Nat.le_of_ble_eq_true rfl, Nat.le_of_ble_eq_true rfl⟩ rfl hl.1 rfl (Nat.le_of_ble_eq_true rfl) ⟨Nat.le_of_ble_eq_true rfl, Nat.le_of_ble_eq_true rfl⟩ dX11_leave_7 (fun H locs hW => ?_)
  refine lv_if_eq (tgt := 23) S.1 S.2.1 dX11_leave_10 (by decide) (fun hc => ?_) (fun hc => ?_)
  · have hF := it_pos hc hF
    refine lv_ldc2 (v := (-1 : Int64)) S.1 S.2.1 S.2.2.2.1 (S.2.2.2.2 _ m_650) dX11_leave_23 ?_
    obtain rfl := Option.some.inj hF
    exact rr_l S hr hlk hW rfl dX11_leave_26
  · have hF := it_neg hc hF
    refine lv_aload_n S.1 S.2.1 dX11_leave_13 rfl (lv_at hl 0 rfl) ?_
    refine rg_state S hW dX11_leave_14 ?_
    refine lv_iload_n S.1 S.2.1 dX11_leave_17 rfl (lv_at hl 1 rfl) ?_
    obtain ⟨h2, hF⟩ := gd_of hF
    refine rl_state S hW h2 dX11_leave_18 ?_
    refine lv_iconst (v := (2 : Int32)) S.1 S.2.1 dX11_leave_19 (by decide) ?_
    refine lv_icmp_ne (tgt := 27) S.1 S.2.1 dX11_leave_20 (by decide) (fun hc => ?_) (fun hc => ?_)
    · have hF := it_neg hc hF
      refine lv_aload_n S.1 S.2.1 dX11_leave_27 rfl (lv_at hl 0 rfl) ?_
      refine lv_iload_n S.1 S.2.1 dX11_leave_28 rfl (lv_at hl 1 rfl) ?_
      obtain ⟨u3, hu3, hF⟩ := bd_of hF
      refine rc_l (k := 1) (As := [.int a1]) (rest := []) (cR_balanceOf l D ad cA kk hd hu3) hd (fun _ h => h) S hW (gd_V m_633 m_634 m_635 m_5 m_636) (by decide +kernel) ⟨Nat.le_of_ble_eq_true rfl, Nat.le_of_ble_eq_true rfl⟩ rfl hl.1 rfl (Nat.le_of_ble_eq_true rfl) ⟨Nat.le_of_ble_eq_true rfl, Nat.le_of_ble_eq_true rfl⟩ dX11_leave_29 (fun H locs hW => ?_)
      refine lv_lstore_n (lv' := [(2, .long u3), (0, .ref (ad 35)), (1, .int a1)]) S.1 S.2.1 dX11_leave_32 rfl hl (by decide) rfl (fun ls hl => ?_)
      refine lv_lload_n S.1 S.2.1 dX11_leave_33 rfl (lv_at hl 0 rfl) ?_
      refine lv_lconst (v := (0 : Int64)) S.1 S.2.1 dX11_leave_34 (by decide) ?_
      refine W.lcmp S.1 S.2.1 dX11_leave_35 ?_
      refine lv_if_le (tgt := 53) S.1 S.2.1 dX11_leave_36 (by decide) (fun hc => ?_) (fun hc => ?_)
      · have hF := it_pos hc hF
        refine lv_aload_n S.1 S.2.1 dX11_leave_53 rfl (lv_at hl 1 rfl) ?_
        refine rg_state S hW dX11_leave_54 ?_
        refine lv_iload_n S.1 S.2.1 dX11_leave_57 rfl (lv_at hl 2 rfl) ?_
        refine lv_iconst (v := (2 : Int32)) S.1 S.2.1 dX11_leave_58 (by decide) ?_
        refine rs_state S hW h2 dX11_leave_59 (fun H locs hW => ?_)
        refine lv_lload_n S.1 S.2.1 dX11_leave_60 rfl (lv_at hl 0 rfl) ?_
        refine lv_lconst (v := (0 : Int64)) S.1 S.2.1 dX11_leave_61 (by decide) ?_
        refine W.lcmp S.1 S.2.1 dX11_leave_62 ?_
        refine lv_if_gt (tgt := 68) S.1 S.2.1 dX11_leave_63 (by decide) (fun hc => ?_) (fun hc => ?_)
        · have hF := it_pos hc hF
          refine lv_aload_n S.1 S.2.1 dX11_leave_68 rfl (lv_at hl 1 rfl) ?_
          refine lv_iload_n S.1 S.2.1 dX11_leave_69 rfl (lv_at hl 2 rfl) ?_
          refine lv_bipush (v := (6 : Int32)) S.1 S.2.1 dX11_leave_70 (by decide) ?_
          refine lv_lload_n S.1 S.2.1 dX11_leave_72 rfl (lv_at hl 0 rfl) ?_
          refine lv_lneg S.1 S.2.1 dX11_leave_73 ?_
          obtain ⟨u4, hu4, hF⟩ := bd_of hF
          refine rc_v (k := 3) (As := [.int a1, .int ((6 : Int32)), .long ((-u3))]) (rest := []) (cR_enter l D ad cA kk hd hu4) hd (fun _ h => h) S hW (gd_V m_566 m_567 m_568 m_5 m_569) (by decide +kernel) ⟨Nat.le_of_ble_eq_true rfl, Nat.le_of_ble_eq_true rfl⟩ rfl hl.1 rfl (Nat.le_of_ble_eq_true rfl) ⟨Nat.le_of_ble_eq_true rfl, Nat.le_of_ble_eq_true rfl⟩ dX11_leave_74 (fun H locs hW => ?_)
          refine lv_lload_n S.1 S.2.1 dX11_leave_77 rfl (lv_at hl 0 rfl) ?_
          obtain rfl := Option.some.inj hF
          exact rr_l S hr hlk hW rfl dX11_leave_78
        · have hF := it_neg hc hF
          refine lv_lconst (v := (0 : Int64)) S.1 S.2.1 dX11_leave_66 (by decide) ?_
          obtain rfl := Option.some.inj hF
          exact rr_l S hr hlk hW rfl dX11_leave_67
      · have hF := it_neg hc hF
        refine lv_aload_n S.1 S.2.1 dX11_leave_39 rfl (lv_at hl 1 rfl) ?_
        refine rg_entries S hW dX11_leave_40 ?_
        refine lv_sipush (v := (900 : Int32)) S.1 S.2.1 dX11_leave_43 (by decide) ?_
        refine lv_icmp_ne (tgt := 53) S.1 S.2.1 dX11_leave_46 (by decide) (fun hc => ?_) (fun hc => ?_)
        · have hF := it_neg hc hF
          refine lv_aload_n S.1 S.2.1 dX11_leave_53 rfl (lv_at hl 1 rfl) ?_
          refine rg_state S hW dX11_leave_54 ?_
          refine lv_iload_n S.1 S.2.1 dX11_leave_57 rfl (lv_at hl 2 rfl) ?_
          refine lv_iconst (v := (2 : Int32)) S.1 S.2.1 dX11_leave_58 (by decide) ?_
          refine rs_state S hW h2 dX11_leave_59 (fun H locs hW => ?_)
          refine lv_lload_n S.1 S.2.1 dX11_leave_60 rfl (lv_at hl 0 rfl) ?_
          refine lv_lconst (v := (0 : Int64)) S.1 S.2.1 dX11_leave_61 (by decide) ?_
          refine W.lcmp S.1 S.2.1 dX11_leave_62 ?_
          refine lv_if_gt (tgt := 68) S.1 S.2.1 dX11_leave_63 (by decide) (fun hc => ?_) (fun hc => ?_)
          · have hF := it_pos hc hF
            refine lv_aload_n S.1 S.2.1 dX11_leave_68 rfl (lv_at hl 1 rfl) ?_
            refine lv_iload_n S.1 S.2.1 dX11_leave_69 rfl (lv_at hl 2 rfl) ?_
            refine lv_bipush (v := (6 : Int32)) S.1 S.2.1 dX11_leave_70 (by decide) ?_
            refine lv_lload_n S.1 S.2.1 dX11_leave_72 rfl (lv_at hl 0 rfl) ?_
            refine lv_lneg S.1 S.2.1 dX11_leave_73 ?_
            obtain ⟨u5, hu5, hF⟩ := bd_of hF
            refine rc_v (k := 3) (As := [.int a1, .int ((6 : Int32)), .long ((-u3))]) (rest := []) (cR_enter l D ad cA kk hd hu5) hd (fun _ h => h) S hW (gd_V m_566 m_567 m_568 m_5 m_569) (by decide +kernel) ⟨Nat.le_of_ble_eq_true rfl, Nat.le_of_ble_eq_true rfl⟩ rfl hl.1 rfl (Nat.le_of_ble_eq_true rfl) ⟨Nat.le_of_ble_eq_true rfl, Nat.le_of_ble_eq_true rfl⟩ dX11_leave_74 (fun H locs hW => ?_)
            refine lv_lload_n S.1 S.2.1 dX11_leave_77 rfl (lv_at hl 0 rfl) ?_
            obtain rfl := Option.some.inj hF
            exact rr_l S hr hlk hW rfl dX11_leave_78
          · have hF := it_neg hc hF
            refine lv_lconst (v := (0 : Int64)) S.1 S.2.1 dX11_leave_66 (by decide) ?_
            obtain rfl := Option.some.inj hF
            exact rr_l S hr hlk hW rfl dX11_leave_67
        · have hF := it_pos hc hF
          refine lv_ldc2 (v := (-1 : Int64)) S.1 S.2.1 S.2.2.2.1 (S.2.2.2.2 _ m_650) dX11_leave_49 ?_
          obtain rfl := Option.some.inj hF
          exact rr_l S hr hlk hW rfl dX11_leave_52
    · have hF := it_pos hc hF
      refine lv_ldc2 (v := (-1 : Int64)) S.1 S.2.1 S.2.2.2.1 (S.2.2.2.2 _ m_650) dX11_leave_23 ?_
      obtain rfl := Option.some.inj hF
      exact rr_l S hr hlk hW rfl dX11_leave_26
def fR_member (σ : SR) (a1 : Int32) (a2 : Int32) : Option (Int64 × SR) :=
  Option.bind (fR_isMember (pz σ 31 ((0 : Int32))) a1) (fun u1 =>
  if u1 = 0 then
  some ((0 : Int64), pz (pz σ 31 ((0 : Int32))) 31 ((1 : Int32)))
  else
  Option.bind (fR_in a2 ((0 : Int32)) ((8 : Int32))) (fun u2 =>
  if u2 = 0 then
  some ((0 : Int64), pz (pz σ 31 ((0 : Int32))) 31 ((1 : Int32)))
  else
  if a2 = (0 : Int32) then
  if a1 < 0 ∨ 40 ≤ (a1).toNatClampNeg then none else
  some (((gf (pz σ 31 ((0 : Int32))) 10 (a1).toNatClampNeg)).toInt64, pz σ 31 ((0 : Int32)))
  else if a2 = (1 : Int32) then
  if a1 < 0 ∨ 40 ≤ (a1).toNatClampNeg then none else
  some (((gf (pz σ 31 ((0 : Int32))) 11 (a1).toNatClampNeg)).toInt64, pz σ 31 ((0 : Int32)))
  else if a2 = (2 : Int32) then
  if a1 < 0 ∨ 40 ≤ (a1).toNatClampNeg then none else
  some (((gf (pz σ 31 ((0 : Int32))) 12 (a1).toNatClampNeg)).toInt64, pz σ 31 ((0 : Int32)))
  else if a2 = (3 : Int32) then
  if a1 < 0 ∨ 40 ≤ (a1).toNatClampNeg then none else
  some (((gf (pz σ 31 ((0 : Int32))) 13 (a1).toNatClampNeg)).toInt64, pz σ 31 ((0 : Int32)))
  else if a2 = (4 : Int32) then
  if a1 < 0 ∨ 40 ≤ (a1).toNatClampNeg then none else
  some (((gf (pz σ 31 ((0 : Int32))) 14 (a1).toNatClampNeg)).toInt64, pz σ 31 ((0 : Int32)))
  else if a2 = (5 : Int32) then
  Option.bind (fR_balanceOf (pz σ 31 ((0 : Int32))) a1) (fun u8 =>
  some (u8, pz σ 31 ((0 : Int32))))
  else if a2 = (6 : Int32) then
  if a1 < 0 ∨ 40 ≤ (a1).toNatClampNeg then none else
  some (((gf (pz σ 31 ((0 : Int32))) 15 (a1).toNatClampNeg)).toInt64, pz σ 31 ((0 : Int32)))
  else if a2 = (7 : Int32) then
  if a1 < 0 ∨ 40 ≤ (a1).toNatClampNeg then none else
  if (gf (pz σ 31 ((0 : Int32))) 16 (a1).toNatClampNeg) = 0 then
  some ((0 : Int64), pz σ 31 ((0 : Int32)))
  else
  some ((1 : Int64), pz σ 31 ((0 : Int32)))
  else 
  if a1 < 0 ∨ 40 ≤ (a1).toNatClampNeg then none else
  if (gf (pz σ 31 ((0 : Int32))) 17 (a1).toNatClampNeg) = 0 then
  some ((0 : Int64), pz σ 31 ((0 : Int32)))
  else
  some ((1 : Int64), pz σ 31 ((0 : Int32)))))
set_option maxRecDepth 100000 in
set_option maxHeartbeats 4000000 in
theorem cR_member (l : Launch) (D : va_G) (ad : Nat → Nat) (cA : Nat → ClassId) (kk : Nat → Nat) (hd : RD ad) {σ : SR} {a1 : Int32} {a2 : Int32} {o : Int64 × SR} (hF : fR_member σ a1 a2 = some o) : Ml l yX11_member cX11_member 3 { frames := 2, cells := 0, slots := 0, locals := 43 } [.ref (ad 35), .int a1, .int a2] (RP D ad cA kk σ) o.1 (RP D ad cA kk (o.2)) (RA ad) := by
  refine Ml.of (own := RX11) rfl (by decide +kernel) (Nat.le_of_ble_eq_true rfl) ?_
  intro p e s m args below meth c ls S hr hlk hP hl
  have hW := RW.start hd hP
  have hl : lv_has ls 3 [(0, .ref (ad 35)), (1, .int a1), (2, .int a2)] := hl
  rw [fR_member] at hF
  refine lv_aload_n S.1 S.2.1 dX11_member_0 rfl (lv_at hl 0 rfl) ?_
  refine lv_iconst (v := (0 : Int32)) S.1 S.2.1 dX11_member_1 (by decide) ?_
  refine rp_thrown S hW dX11_member_2 (fun H locs hW => ?_)
  refine lv_aload_n S.1 S.2.1 dX11_member_5 rfl (lv_at hl 0 rfl) ?_
  refine lv_iload_n S.1 S.2.1 dX11_member_6 rfl (lv_at hl 1 rfl) ?_
  obtain ⟨u1, hu1, hF⟩ := bd_of hF
  refine rc_i (k := 1) (As := [.int a1]) (rest := []) (cR_isMember l D ad cA kk hd hu1) hd (fun _ h => h) S hW (gd_V m_600 m_601 m_602 m_5 m_603) (by decide +kernel) ⟨Nat.le_of_ble_eq_true rfl, Nat.le_of_ble_eq_true rfl⟩ rfl hl.1 rfl (Nat.le_of_ble_eq_true rfl) ⟨Nat.le_of_ble_eq_true rfl, Nat.le_of_ble_eq_true rfl⟩ dX11_member_7 (fun H locs hW => ?_)
  refine lv_if_eq (tgt := 23) S.1 S.2.1 dX11_member_10 (by decide) (fun hc => ?_) (fun hc => ?_)
  · have hF := it_pos hc hF
    refine lv_aload_n S.1 S.2.1 dX11_member_23 rfl (lv_at hl 0 rfl) ?_
    refine lv_iconst (v := (1 : Int32)) S.1 S.2.1 dX11_member_24 (by decide) ?_
    refine rp_thrown S hW dX11_member_25 (fun H locs hW => ?_)
    refine lv_lconst (v := (0 : Int64)) S.1 S.2.1 dX11_member_28 (by decide) ?_
    obtain rfl := Option.some.inj hF
    exact rr_l S hr hlk hW rfl dX11_member_29
  · have hF := it_neg hc hF
    refine lv_iload_n S.1 S.2.1 dX11_member_13 rfl (lv_at hl 2 rfl) ?_
    refine lv_iconst (v := (0 : Int32)) S.1 S.2.1 dX11_member_14 (by decide) ?_
    refine lv_bipush (v := (8 : Int32)) S.1 S.2.1 dX11_member_15 (by decide) ?_
    obtain ⟨u2, hu2, hF⟩ := bd_of hF
    refine sc_i (k := 3) (As := [.int a2, .int ((0 : Int32)), .int ((8 : Int32))]) (rest := []) (cR_in l hu2) S (gd_S m_391 m_392 m_5 m_393) rfl rfl (by decide +kernel) ⟨Nat.le_of_ble_eq_true rfl, Nat.le_of_ble_eq_true rfl⟩ rfl hl.1 rfl (Nat.le_of_ble_eq_true rfl) ⟨Nat.le_of_ble_eq_true rfl, Nat.le_of_ble_eq_true rfl⟩ dX11_member_17 ?_
    refine lv_if_ne (tgt := 30) S.1 S.2.1 dX11_member_20 (by decide) (fun hc => ?_) (fun hc => ?_)
    · have hF := it_neg hc hF
      refine lv_iload_n S.1 S.2.1 dX11_member_30 rfl (lv_at hl 2 rfl) ?_
      rcases Classical.em (a2 = (0 : Int32)) with hc0 | hc0
      · have hF := it_pos hc0 hF
        refine lv_tableIn (off := 45) (tgt := 76) S.1 S.2.1 dX11_member_31 (by rw [hc0]; decide) (by rw [hc0]; decide) (by rw [hc0]; decide) (by decide) ?_
        refine lv_aload_n S.1 S.2.1 dX11_member_76 rfl (lv_at hl 0 rfl) ?_
        refine rg_kind S hW dX11_member_77 ?_
        refine lv_iload_n S.1 S.2.1 dX11_member_80 rfl (lv_at hl 1 rfl) ?_
        obtain ⟨h3, hF⟩ := gd_of hF
        refine rl_kind S hW h3 dX11_member_81 ?_
        refine lv_i2l (v := ((gf (pz σ 31 ((0 : Int32))) 10 (a1).toNatClampNeg)).toInt64) S.1 S.2.1 dX11_member_82 rfl ?_
        obtain rfl := Option.some.inj hF
        exact rr_l S hr hlk hW rfl dX11_member_83
      · have hF := it_neg hc0 hF
        rcases Classical.em (a2 = (1 : Int32)) with hc1 | hc1
        · have hF := it_pos hc1 hF
          refine lv_tableIn (off := 53) (tgt := 84) S.1 S.2.1 dX11_member_31 (by rw [hc1]; decide) (by rw [hc1]; decide) (by rw [hc1]; decide) (by decide) ?_
          refine lv_aload_n S.1 S.2.1 dX11_member_84 rfl (lv_at hl 0 rfl) ?_
          refine rg_house S hW dX11_member_85 ?_
          refine lv_iload_n S.1 S.2.1 dX11_member_88 rfl (lv_at hl 1 rfl) ?_
          obtain ⟨h4, hF⟩ := gd_of hF
          refine rl_house S hW h4 dX11_member_89 ?_
          refine lv_i2l (v := ((gf (pz σ 31 ((0 : Int32))) 11 (a1).toNatClampNeg)).toInt64) S.1 S.2.1 dX11_member_90 rfl ?_
          obtain rfl := Option.some.inj hF
          exact rr_l S hr hlk hW rfl dX11_member_91
        · have hF := it_neg hc1 hF
          rcases Classical.em (a2 = (2 : Int32)) with hc2 | hc2
          · have hF := it_pos hc2 hF
            refine lv_tableIn (off := 61) (tgt := 92) S.1 S.2.1 dX11_member_31 (by rw [hc2]; decide) (by rw [hc2]; decide) (by rw [hc2]; decide) (by decide) ?_
            refine lv_aload_n S.1 S.2.1 dX11_member_92 rfl (lv_at hl 0 rfl) ?_
            refine rg_state S hW dX11_member_93 ?_
            refine lv_iload_n S.1 S.2.1 dX11_member_96 rfl (lv_at hl 1 rfl) ?_
            obtain ⟨h5, hF⟩ := gd_of hF
            refine rl_state S hW h5 dX11_member_97 ?_
            refine lv_i2l (v := ((gf (pz σ 31 ((0 : Int32))) 12 (a1).toNatClampNeg)).toInt64) S.1 S.2.1 dX11_member_98 rfl ?_
            obtain rfl := Option.some.inj hF
            exact rr_l S hr hlk hW rfl dX11_member_99
          · have hF := it_neg hc2 hF
            rcases Classical.em (a2 = (3 : Int32)) with hc3 | hc3
            · have hF := it_pos hc3 hF
              refine lv_tableIn (off := 69) (tgt := 100) S.1 S.2.1 dX11_member_31 (by rw [hc3]; decide) (by rw [hc3]; decide) (by rw [hc3]; decide) (by decide) ?_
              refine lv_aload_n S.1 S.2.1 dX11_member_100 rfl (lv_at hl 0 rfl) ?_
              refine rg_bought S hW dX11_member_101 ?_
              refine lv_iload_n S.1 S.2.1 dX11_member_104 rfl (lv_at hl 1 rfl) ?_
              obtain ⟨h6, hF⟩ := gd_of hF
              refine rl_bought S hW h6 dX11_member_105 ?_
              refine lv_i2l (v := ((gf (pz σ 31 ((0 : Int32))) 13 (a1).toNatClampNeg)).toInt64) S.1 S.2.1 dX11_member_106 rfl ?_
              obtain rfl := Option.some.inj hF
              exact rr_l S hr hlk hW rfl dX11_member_107
            · have hF := it_neg hc3 hF
              rcases Classical.em (a2 = (4 : Int32)) with hc4 | hc4
              · have hF := it_pos hc4 hF
                refine lv_tableIn (off := 77) (tgt := 108) S.1 S.2.1 dX11_member_31 (by rw [hc4]; decide) (by rw [hc4]; decide) (by rw [hc4]; decide) (by decide) ?_
                refine lv_aload_n S.1 S.2.1 dX11_member_108 rfl (lv_at hl 0 rfl) ?_
                refine rg_owing S hW dX11_member_109 ?_
                refine lv_iload_n S.1 S.2.1 dX11_member_112 rfl (lv_at hl 1 rfl) ?_
                obtain ⟨h7, hF⟩ := gd_of hF
                refine rl_owing S hW h7 dX11_member_113 ?_
                refine lv_i2l (v := ((gf (pz σ 31 ((0 : Int32))) 14 (a1).toNatClampNeg)).toInt64) S.1 S.2.1 dX11_member_114 rfl ?_
                obtain rfl := Option.some.inj hF
                exact rr_l S hr hlk hW rfl dX11_member_115
              · have hF := it_neg hc4 hF
                rcases Classical.em (a2 = (5 : Int32)) with hc5 | hc5
                · have hF := it_pos hc5 hF
                  refine lv_tableIn (off := 85) (tgt := 116) S.1 S.2.1 dX11_member_31 (by rw [hc5]; decide) (by rw [hc5]; decide) (by rw [hc5]; decide) (by decide) ?_
                  refine lv_aload_n S.1 S.2.1 dX11_member_116 rfl (lv_at hl 0 rfl) ?_
                  refine lv_iload_n S.1 S.2.1 dX11_member_117 rfl (lv_at hl 1 rfl) ?_
                  obtain ⟨u8, hu8, hF⟩ := bd_of hF
                  refine rc_l (k := 1) (As := [.int a1]) (rest := []) (cR_balanceOf l D ad cA kk hd hu8) hd (fun _ h => h) S hW (gd_V m_633 m_634 m_635 m_5 m_636) (by decide +kernel) ⟨Nat.le_of_ble_eq_true rfl, Nat.le_of_ble_eq_true rfl⟩ rfl hl.1 rfl (Nat.le_of_ble_eq_true rfl) ⟨Nat.le_of_ble_eq_true rfl, Nat.le_of_ble_eq_true rfl⟩ dX11_member_118 (fun H locs hW => ?_)
                  obtain rfl := Option.some.inj hF
                  exact rr_l S hr hlk hW rfl dX11_member_121
                · have hF := it_neg hc5 hF
                  rcases Classical.em (a2 = (6 : Int32)) with hc6 | hc6
                  · have hF := it_pos hc6 hF
                    refine lv_tableIn (off := 91) (tgt := 122) S.1 S.2.1 dX11_member_31 (by rw [hc6]; decide) (by rw [hc6]; decide) (by rw [hc6]; decide) (by decide) ?_
                    refine lv_aload_n S.1 S.2.1 dX11_member_122 rfl (lv_at hl 0 rfl) ?_
                    refine rg_refusal S hW dX11_member_123 ?_
                    refine lv_iload_n S.1 S.2.1 dX11_member_126 rfl (lv_at hl 1 rfl) ?_
                    obtain ⟨h9, hF⟩ := gd_of hF
                    refine rl_refusal S hW h9 dX11_member_127 ?_
                    refine lv_i2l (v := ((gf (pz σ 31 ((0 : Int32))) 15 (a1).toNatClampNeg)).toInt64) S.1 S.2.1 dX11_member_128 rfl ?_
                    obtain rfl := Option.some.inj hF
                    exact rr_l S hr hlk hW rfl dX11_member_129
                  · have hF := it_neg hc6 hF
                    rcases Classical.em (a2 = (7 : Int32)) with hc7 | hc7
                    · have hF := it_pos hc7 hF
                      refine lv_tableIn (off := 99) (tgt := 130) S.1 S.2.1 dX11_member_31 (by rw [hc7]; decide) (by rw [hc7]; decide) (by rw [hc7]; decide) (by decide) ?_
                      refine lv_aload_n S.1 S.2.1 dX11_member_130 rfl (lv_at hl 0 rfl) ?_
                      refine rg_sentLast S hW dX11_member_131 ?_
                      refine lv_iload_n S.1 S.2.1 dX11_member_134 rfl (lv_at hl 1 rfl) ?_
                      obtain ⟨h10, hF⟩ := gd_of hF
                      refine rl_sentLast S hW h10 dX11_member_135 ?_
                      refine lv_if_eq (tgt := 143) S.1 S.2.1 dX11_member_136 (by decide) (fun hc => ?_) (fun hc => ?_)
                      · have hF := it_pos hc hF
                        refine lv_lconst (v := (0 : Int64)) S.1 S.2.1 dX11_member_143 (by decide) ?_
                        obtain rfl := Option.some.inj hF
                        exact rr_l S hr hlk hW rfl dX11_member_144
                      · have hF := it_neg hc hF
                        refine lv_lconst (v := (1 : Int64)) S.1 S.2.1 dX11_member_139 (by decide) ?_
                        refine lv_goto (tgt := 144) S.1 S.2.1 dX11_member_140 (by decide) ?_
                        obtain rfl := Option.some.inj hF
                        exact rr_l S hr hlk hW rfl dX11_member_144
                    · have hF := it_neg hc7 hF
                      have n0 := sw_ne hc0
                      have n1 := sw_ne hc1
                      have n2 := sw_ne hc2
                      have n3 := sw_ne hc3
                      have n4 := sw_ne hc4
                      have n5 := sw_ne hc5
                      have n6 := sw_ne hc6
                      have n7 := sw_ne hc7
                      refine lv_tableOut (tgt := 145) S.1 S.2.1 dX11_member_31 (by simp only [tI_0, tI_1, tI_2, tI_3, tI_4, tI_5, tI_6, tI_7] at n0 n1 n2 n3 n4 n5 n6 n7; omega) (by decide) ?_
                      refine lv_aload_n S.1 S.2.1 dX11_member_145 rfl (lv_at hl 0 rfl) ?_
                      refine rg_shortLast S hW dX11_member_146 ?_
                      refine lv_iload_n S.1 S.2.1 dX11_member_149 rfl (lv_at hl 1 rfl) ?_
                      obtain ⟨h11, hF⟩ := gd_of hF
                      refine rl_shortLast S hW h11 dX11_member_150 ?_
                      refine lv_if_eq (tgt := 158) S.1 S.2.1 dX11_member_151 (by decide) (fun hc => ?_) (fun hc => ?_)
                      · have hF := it_pos hc hF
                        refine lv_lconst (v := (0 : Int64)) S.1 S.2.1 dX11_member_158 (by decide) ?_
                        obtain rfl := Option.some.inj hF
                        exact rr_l S hr hlk hW rfl dX11_member_159
                      · have hF := it_neg hc hF
                        refine lv_lconst (v := (1 : Int64)) S.1 S.2.1 dX11_member_154 (by decide) ?_
                        refine lv_goto (tgt := 159) S.1 S.2.1 dX11_member_155 (by decide) ?_
                        obtain rfl := Option.some.inj hF
                        exact rr_l S hr hlk hW rfl dX11_member_159
    · have hF := it_pos hc hF
      refine lv_aload_n S.1 S.2.1 dX11_member_23 rfl (lv_at hl 0 rfl) ?_
      refine lv_iconst (v := (1 : Int32)) S.1 S.2.1 dX11_member_24 (by decide) ?_
      refine rp_thrown S hW dX11_member_25 (fun H locs hW => ?_)
      refine lv_lconst (v := (0 : Int64)) S.1 S.2.1 dX11_member_28 (by decide) ?_
      obtain rfl := Option.some.inj hF
      exact rr_l S hr hlk hW rfl dX11_member_29
def fR_thrown (σ : SR) : Option (Int32) :=
  some ((gz σ 31))
set_option maxRecDepth 100000 in
set_option maxHeartbeats 4000000 in
theorem cR_thrown (l : Launch) (D : va_G) (ad : Nat → Nat) (cA : Nat → ClassId) (kk : Nat → Nat) (hd : RD ad) {σ : SR} {o : Int32} (hF : fR_thrown σ = some o) : Mi l yX11_thrown cX11_thrown 1 .int { frames := 0, cells := 0, slots := 0, locals := 0 } [.ref (ad 35)] (RP D ad cA kk σ) o (RP D ad cA kk σ) (RA ad) := by
  refine Mi.of (own := RX11) rfl (by decide +kernel) (Nat.le_of_ble_eq_true rfl) ?_
  intro p e s m args below meth c ls S hr hlk hP hl
  have hW := RW.start hd hP
  have hl : lv_has ls 1 [(0, .ref (ad 35))] := hl
  rw [fR_thrown] at hF
  refine lv_aload_n S.1 S.2.1 dX11_thrown_0 rfl (lv_at hl 0 rfl) ?_
  refine rg_thrown S hW dX11_thrown_1 ?_
  obtain rfl := Option.some.inj hF
  exact rr_i S hr hlk hW rfl rfl dX11_thrown_4
def fR_choice (σ : SR) (a1 : Int32) (a2 : Int32) : Option (Int32 × SR) :=
  Option.bind (fR_in a1 ((0 : Int32)) ((5000 : Int32))) (fun u1 =>
  if u1 = 0 then
  some ((-1 : Int32), pz σ 31 ((0 : Int32)))
  else
  Option.bind (fR_in a2 ((0 : Int32)) ((1000 : Int32))) (fun u2 =>
  if u2 = 0 then
  some ((-1 : Int32), pz σ 31 ((0 : Int32)))
  else
  if (((8 : Int32) * (gz (pz σ 31 ((0 : Int32))) 20)) + (1 : Int32)) < 0 ∨ 488 ≤ ((((8 : Int32) * (gz (pz σ 31 ((0 : Int32))) 20)) + (1 : Int32))).toNatClampNeg then none else
  if ((gf (pz σ 31 ((0 : Int32))) 21 ((((8 : Int32) * (gz (pz σ 31 ((0 : Int32))) 20)) + (1 : Int32))).toNatClampNeg) + a2) ≤ (5000 : Int32) then
  if ((8 : Int32) * (gz (pz σ 31 ((0 : Int32))) 20)) < 0 ∨ 488 ≤ (((8 : Int32) * (gz (pz σ 31 ((0 : Int32))) 20))).toNatClampNeg then none else
  if (((8 : Int32) * (gz (pz σ 31 ((0 : Int32))) 20)) + (2 : Int32)) < 0 ∨ 488 ≤ ((((8 : Int32) * (gz (pz σ 31 ((0 : Int32))) 20)) + (2 : Int32))).toNatClampNeg then none else
  some ((gf (pf (pf (pf (pz σ 31 ((0 : Int32))) 21 (((8 : Int32) * (gz (pz σ 31 ((0 : Int32))) 20))).toNatClampNeg a1) 21 ((((8 : Int32) * (gz (pz σ 31 ((0 : Int32))) 20)) + (1 : Int32))).toNatClampNeg (((gf (pf (pz σ 31 ((0 : Int32))) 21 (((8 : Int32) * (gz (pz σ 31 ((0 : Int32))) 20))).toNatClampNeg a1) 21 ((((8 : Int32) * (gz (pz σ 31 ((0 : Int32))) 20)) + (1 : Int32))).toNatClampNeg) + a2))) 21 ((((8 : Int32) * (gz (pz σ 31 ((0 : Int32))) 20)) + (2 : Int32))).toNatClampNeg (((gf (pf (pf (pz σ 31 ((0 : Int32))) 21 (((8 : Int32) * (gz (pz σ 31 ((0 : Int32))) 20))).toNatClampNeg a1) 21 ((((8 : Int32) * (gz (pz σ 31 ((0 : Int32))) 20)) + (1 : Int32))).toNatClampNeg (((gf (pf (pz σ 31 ((0 : Int32))) 21 (((8 : Int32) * (gz (pz σ 31 ((0 : Int32))) 20))).toNatClampNeg a1) 21 ((((8 : Int32) * (gz (pz σ 31 ((0 : Int32))) 20)) + (1 : Int32))).toNatClampNeg) + a2))) 21 ((((8 : Int32) * (gz (pz σ 31 ((0 : Int32))) 20)) + (2 : Int32))).toNatClampNeg) + a2))) 21 ((((8 : Int32) * (gz (pz σ 31 ((0 : Int32))) 20)) + (2 : Int32))).toNatClampNeg), pf (pf (pf (pz σ 31 ((0 : Int32))) 21 (((8 : Int32) * (gz (pz σ 31 ((0 : Int32))) 20))).toNatClampNeg a1) 21 ((((8 : Int32) * (gz (pz σ 31 ((0 : Int32))) 20)) + (1 : Int32))).toNatClampNeg (((gf (pf (pz σ 31 ((0 : Int32))) 21 (((8 : Int32) * (gz (pz σ 31 ((0 : Int32))) 20))).toNatClampNeg a1) 21 ((((8 : Int32) * (gz (pz σ 31 ((0 : Int32))) 20)) + (1 : Int32))).toNatClampNeg) + a2))) 21 ((((8 : Int32) * (gz (pz σ 31 ((0 : Int32))) 20)) + (2 : Int32))).toNatClampNeg (((gf (pf (pf (pz σ 31 ((0 : Int32))) 21 (((8 : Int32) * (gz (pz σ 31 ((0 : Int32))) 20))).toNatClampNeg a1) 21 ((((8 : Int32) * (gz (pz σ 31 ((0 : Int32))) 20)) + (1 : Int32))).toNatClampNeg (((gf (pf (pz σ 31 ((0 : Int32))) 21 (((8 : Int32) * (gz (pz σ 31 ((0 : Int32))) 20))).toNatClampNeg a1) 21 ((((8 : Int32) * (gz (pz σ 31 ((0 : Int32))) 20)) + (1 : Int32))).toNatClampNeg) + a2))) 21 ((((8 : Int32) * (gz (pz σ 31 ((0 : Int32))) 20)) + (2 : Int32))).toNatClampNeg) + a2)))
  else
  some ((-1 : Int32), pz σ 31 ((0 : Int32)))))
set_option maxRecDepth 100000 in
set_option maxHeartbeats 4000000 in
theorem cR_choice (l : Launch) (D : va_G) (ad : Nat → Nat) (cA : Nat → ClassId) (kk : Nat → Nat) (hd : RD ad) {σ : SR} {a1 : Int32} {a2 : Int32} {o : Int32 × SR} (hF : fR_choice σ a1 a2 = some o) : Mi l yX11_choice cX11_choice 4 .int { frames := 1, cells := 0, slots := 0, locals := 22 } [.ref (ad 35), .int a1, .int a2] (RP D ad cA kk σ) o.1 (RP D ad cA kk (o.2)) (RA ad) := by
  refine Mi.of (own := RX11) rfl (by decide +kernel) (Nat.le_of_ble_eq_true rfl) ?_
  intro p e s m args below meth c ls S hr hlk hP hl
  have hW := RW.start hd hP
  have hl : lv_has ls 4 [(0, .ref (ad 35)), (1, .int a1), (2, .int a2)] := hl
  rw [fR_choice] at hF
  refine lv_aload_n S.1 S.2.1 dX11_choice_0 rfl (lv_at hl 0 rfl) ?_
  refine lv_iconst (v := (0 : Int32)) S.1 S.2.1 dX11_choice_1 (by decide) ?_
  refine rp_thrown S hW dX11_choice_2 (fun H locs hW => ?_)
  refine lv_bipush (v := (8 : Int32)) S.1 S.2.1 dX11_choice_5 (by decide) ?_
  refine lv_aload_n S.1 S.2.1 dX11_choice_7 rfl (lv_at hl 0 rfl) ?_
  refine rg_month S hW dX11_choice_8 ?_
  refine lv_imul S.1 S.2.1 dX11_choice_11 ?_
  refine lv_istore_n (lv' := [(3, .int (((8 : Int32) * (gz (pz σ 31 ((0 : Int32))) 20)))), (0, .ref (ad 35)), (1, .int a1), (2, .int a2)]) S.1 S.2.1 dX11_choice_12 rfl hl (by decide) rfl (fun ls hl => ?_)
  refine lv_iload_n S.1 S.2.1 dX11_choice_13 rfl (lv_at hl 2 rfl) ?_
  refine lv_iconst (v := (0 : Int32)) S.1 S.2.1 dX11_choice_14 (by decide) ?_
  refine lv_sipush (v := (5000 : Int32)) S.1 S.2.1 dX11_choice_15 (by decide) ?_
  obtain ⟨u1, hu1, hF⟩ := bd_of hF
  refine sc_i (k := 3) (As := [.int a1, .int ((0 : Int32)), .int ((5000 : Int32))]) (rest := []) (cR_in l hu1) S (gd_S m_391 m_392 m_5 m_393) rfl rfl (by decide +kernel) ⟨Nat.le_of_ble_eq_true rfl, Nat.le_of_ble_eq_true rfl⟩ rfl hl.1 rfl (Nat.le_of_ble_eq_true rfl) ⟨Nat.le_of_ble_eq_true rfl, Nat.le_of_ble_eq_true rfl⟩ dX11_choice_18 ?_
  refine lv_if_eq (tgt := 51) S.1 S.2.1 dX11_choice_21 (by decide) (fun hc => ?_) (fun hc => ?_)
  · have hF := it_pos hc hF
    refine lv_iconst (v := (-1 : Int32)) S.1 S.2.1 dX11_choice_51 (by decide) ?_
    obtain rfl := Option.some.inj hF
    exact rr_i S hr hlk hW rfl rfl dX11_choice_52
  · have hF := it_neg hc hF
    refine lv_iload_n S.1 S.2.1 dX11_choice_24 rfl (lv_at hl 3 rfl) ?_
    refine lv_iconst (v := (0 : Int32)) S.1 S.2.1 dX11_choice_25 (by decide) ?_
    refine lv_sipush (v := (1000 : Int32)) S.1 S.2.1 dX11_choice_26 (by decide) ?_
    obtain ⟨u2, hu2, hF⟩ := bd_of hF
    refine sc_i (k := 3) (As := [.int a2, .int ((0 : Int32)), .int ((1000 : Int32))]) (rest := []) (cR_in l hu2) S (gd_S m_391 m_392 m_5 m_393) rfl rfl (by decide +kernel) ⟨Nat.le_of_ble_eq_true rfl, Nat.le_of_ble_eq_true rfl⟩ rfl hl.1 rfl (Nat.le_of_ble_eq_true rfl) ⟨Nat.le_of_ble_eq_true rfl, Nat.le_of_ble_eq_true rfl⟩ dX11_choice_29 ?_
    refine lv_if_eq (tgt := 51) S.1 S.2.1 dX11_choice_32 (by decide) (fun hc => ?_) (fun hc => ?_)
    · have hF := it_pos hc hF
      refine lv_iconst (v := (-1 : Int32)) S.1 S.2.1 dX11_choice_51 (by decide) ?_
      obtain rfl := Option.some.inj hF
      exact rr_i S hr hlk hW rfl rfl dX11_choice_52
    · have hF := it_neg hc hF
      refine lv_aload_n S.1 S.2.1 dX11_choice_35 rfl (lv_at hl 1 rfl) ?_
      refine rg_books S hW dX11_choice_36 ?_
      refine lv_iload_n S.1 S.2.1 dX11_choice_39 rfl (lv_at hl 0 rfl) ?_
      refine lv_iconst (v := (1 : Int32)) S.1 S.2.1 dX11_choice_40 (by decide) ?_
      refine lv_iadd S.1 S.2.1 dX11_choice_41 ?_
      obtain ⟨h3, hF⟩ := gd_of hF
      refine rl_books S hW h3 dX11_choice_42 ?_
      refine lv_iload_n S.1 S.2.1 dX11_choice_43 rfl (lv_at hl 3 rfl) ?_
      refine lv_iadd S.1 S.2.1 dX11_choice_44 ?_
      refine lv_sipush (v := (5000 : Int32)) S.1 S.2.1 dX11_choice_45 (by decide) ?_
      refine lv_icmp_le (tgt := 53) S.1 S.2.1 dX11_choice_48 (by decide) (fun hc => ?_) (fun hc => ?_)
      · have hF := it_pos hc hF
        refine lv_aload_n S.1 S.2.1 dX11_choice_53 rfl (lv_at hl 1 rfl) ?_
        refine rg_books S hW dX11_choice_54 ?_
        refine lv_iload_n S.1 S.2.1 dX11_choice_57 rfl (lv_at hl 0 rfl) ?_
        refine lv_iload_n S.1 S.2.1 dX11_choice_58 rfl (lv_at hl 2 rfl) ?_
        obtain ⟨h4, hF⟩ := gd_of hF
        refine rs_books S hW h4 dX11_choice_59 (fun H locs hW => ?_)
        refine lv_aload_n S.1 S.2.1 dX11_choice_60 rfl (lv_at hl 1 rfl) ?_
        refine rg_books S hW dX11_choice_61 ?_
        refine lv_iload_n S.1 S.2.1 dX11_choice_64 rfl (lv_at hl 0 rfl) ?_
        refine lv_iconst (v := (1 : Int32)) S.1 S.2.1 dX11_choice_65 (by decide) ?_
        refine lv_iadd S.1 S.2.1 dX11_choice_66 ?_
        refine lv_dup2_11 S.1 S.2.1 dX11_choice_67 rfl rfl ?_
        refine rl_books S hW h3 dX11_choice_68 ?_
        refine lv_iload_n S.1 S.2.1 dX11_choice_69 rfl (lv_at hl 3 rfl) ?_
        refine lv_iadd S.1 S.2.1 dX11_choice_70 ?_
        refine rs_books S hW h3 dX11_choice_71 (fun H locs hW => ?_)
        refine lv_aload_n S.1 S.2.1 dX11_choice_72 rfl (lv_at hl 1 rfl) ?_
        refine rg_books S hW dX11_choice_73 ?_
        refine lv_iload_n S.1 S.2.1 dX11_choice_76 rfl (lv_at hl 0 rfl) ?_
        refine lv_iconst (v := (2 : Int32)) S.1 S.2.1 dX11_choice_77 (by decide) ?_
        refine lv_iadd S.1 S.2.1 dX11_choice_78 ?_
        refine lv_dup2_11 S.1 S.2.1 dX11_choice_79 rfl rfl ?_
        obtain ⟨h5, hF⟩ := gd_of hF
        refine rl_books S hW h5 dX11_choice_80 ?_
        refine lv_iload_n S.1 S.2.1 dX11_choice_81 rfl (lv_at hl 3 rfl) ?_
        refine lv_iadd S.1 S.2.1 dX11_choice_82 ?_
        refine rs_books S hW h5 dX11_choice_83 (fun H locs hW => ?_)
        refine lv_aload_n S.1 S.2.1 dX11_choice_84 rfl (lv_at hl 1 rfl) ?_
        refine rg_books S hW dX11_choice_85 ?_
        refine lv_iload_n S.1 S.2.1 dX11_choice_88 rfl (lv_at hl 0 rfl) ?_
        refine lv_iconst (v := (2 : Int32)) S.1 S.2.1 dX11_choice_89 (by decide) ?_
        refine lv_iadd S.1 S.2.1 dX11_choice_90 ?_
        refine rl_books S hW h5 dX11_choice_91 ?_
        obtain rfl := Option.some.inj hF
        exact rr_i S hr hlk hW rfl rfl dX11_choice_92
      · have hF := it_neg hc hF
        refine lv_iconst (v := (-1 : Int32)) S.1 S.2.1 dX11_choice_51 (by decide) ?_
        obtain rfl := Option.some.inj hF
        exact rr_i S hr hlk hW rfl rfl dX11_choice_52
