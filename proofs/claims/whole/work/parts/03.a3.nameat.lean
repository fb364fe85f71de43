def fR_nameAt_L47 (σ : SR) (l1 : Int32) (l2 : Int32) (l3 : Int32) (l4 : Int32) (l5 : Int32) : Nat → Int32 → Int32 → Option (Int32)
  | 0, _, _ => none
  | n + 1, x6, x7 =>
    if x6 = 0 then
    some ((x6))
    else
    if (l2 - l1) ≤ x7 then
    some ((x6))
    else
    Option.bind (fK_charAt 8 ((l4 + x7))) (fun u1 =>
    if (l1 + x7) < 0 ∨ 200 ≤ ((l1 + x7)).toNatClampNeg then none else
    Option.bind (if u1 = (gf σ 0 ((l1 + x7)).toNatClampNeg) then
    some ((1 : Int32))
    else
    some ((0 : Int32))) (fun u3 =>
    fR_nameAt_L47 σ l1 l2 l3 l4 l5 n u3 ((x7 + (1 : Int32)))))
def fR_nameAt_L5 (σ : SR) (l1 : Int32) (l2 : Int32) : Nat → Int32 → Int32 → Option ((Unit) ⊕ (Int32))
  | 0, _, _ => none
  | n + 1, x3, x4 =>
    Option.bind (fK_length 8) (fun u1 =>
    if u1 ≤ x4 then
    some (Sum.inl (()))
    else
    Option.bind (fK_indexOf 8 ((32 : Int32)) x4) (fun u2 =>
    Option.bind (if (u2 - x4) = (l2 - l1) then
    some ((1 : Int32))
    else
    some ((0 : Int32))) (fun u3 =>
    Option.bind (fR_nameAt_L47 σ l1 l2 x3 x4 u2 1000 u3 ((0 : Int32))) (fun u4 =>
    if u4 = 0 then
    fR_nameAt_L5 σ l1 l2 n ((x3 + (1 : Int32))) ((u2 + (1 : Int32)))
    else
    some (Sum.inr (x3))))))
def fR_nameAt (σ : SR) (a1 : Int32) (a2 : Int32) : Option (Int32) :=
  Option.bind (fR_nameAt_L5 σ a1 a2 1000 ((0 : Int32)) ((0 : Int32))) (fun w11 => Sum.elim (fun u1 =>
  some ((-1 : Int32))) (fun r => some r) w11)
set_option maxRecDepth 100000 in
set_option maxHeartbeats 4000000 in
theorem cR_nameAt (l : Launch) (D : va_G) (ad : Nat → Nat) (cA : Nat → ClassId) (kk : Nat → Nat) (hd : RD ad) {σ : SR} {a1 : Int32} {a2 : Int32} {o : Int32} (hF : fR_nameAt σ a1 a2 = some o) : Mi l yX11_nameAt cX11_nameAt 8 .int { frames := 4, cells := 0, slots := 0, locals := 85 } [.ref (ad 35), .int a1, .int a2] (RP D ad cA kk σ) o (RP D ad cA kk σ) (RA ad) := by
  refine Mi.of (own := RX11) rfl (by decide +kernel) (Nat.le_of_ble_eq_true rfl) ?_
  intro p e s m args below meth c ls S hr hlk hP hl
  have hW := RW.start hd hP
  have hl : lv_has ls 8 [(0, .ref (ad 35)), (1, .int a1), (2, .int a2)] := hl
  rw [fR_nameAt] at hF
  refine lv_iconst (v := (0 : Int32)) S.1 S.2.1 dX11_nameAt_0 (by decide) ?_
  refine lv_istore_n (lv' := [(3, .int ((0 : Int32))), (0, .ref (ad 35)), (1, .int a1), (2, .int a2)]) S.1 S.2.1 dX11_nameAt_1 rfl hl (by decide) rfl (fun ls hl => ?_)
  refine lv_iconst (v := (0 : Int32)) S.1 S.2.1 dX11_nameAt_2 (by decide) ?_
  refine lv_istore (lv' := [(4, .int ((0 : Int32))), (3, .int ((0 : Int32))), (0, .ref (ad 35)), (1, .int a1), (2, .int a2)]) S.1 S.2.1 dX11_nameAt_3 hl (by decide) rfl (fun ls hl => ?_)
  obtain ⟨w11, hX, hF⟩ := bd_of hF
  refine jn1 (fun H locs ls => ∃ u1, w11 = Sum.inl u1 ∧ lv_has ls 8 [] ∧ RW D ad cA kk σ s (RA ad) H locs) 114 [] (fun H locs ls hJ => ?_) (fun Ju1 => ?_)
  · obtain ⟨u1, rfl, hl, hW⟩ := hJ
    rw [Sum.elim_inl] at hF
    refine lv_iconst (v := (-1 : Int32)) S.1 S.2.1 dX11_nameAt_114 (by decide) ?_
    obtain rfl := Option.some.inj hF
    exact rr_i S hr hlk hW rfl rfl dX11_nameAt_115
  · have hF0 := hF
    clear hF
    refine lpW (fun (xu1 : Int32 × Int32) H locs ls => lv_has ls 8 [(0, .ref (ad 35)), (1, .int a1), (2, .int a2), (3, .int xu1.1), (4, .int xu1.2)] ∧ RW D ad cA kk σ s (RA ad) H locs) 5 (fun n xu1 => fR_nameAt_L5 σ a1 a2 n xu1.1 xu1.2) w11 (fun _ => rfl) (fun n xu1 ihu1 hF H locs ls hJ => ?_) 1000 ((0 : Int32), (0 : Int32)) hX _ _ _ ⟨lv_sub hl [2, 3, 4, 1, 0] rfl, hW⟩
    obtain ⟨hl, hW⟩ := hJ
    have hF : fR_nameAt_L5 σ a1 a2 (n + 1) xu1.1 xu1.2 = some w11 := hF
    rw [fR_nameAt_L5] at hF
    refine lv_iload S.1 S.2.1 dX11_nameAt_5 (lv_at hl 4 rfl) ?_
    refine va_ldcS S.1 S.2.1 S.2.2.2.1 (k8 hW.2.2.2.2) dX11_nameAt_7 ?_
    obtain ⟨u3, hu3, hF⟩ := bd_of hF
    refine kc_i (k := 0) (As := []) (rest := [.int xu1.2]) (cK_length l _ kk hu3) (fun U hU hw => hW.2.2.2.2.kept hW.2.2.2.1 hU hw) (fun _ _ _ _ h => h.same) (k8r hW.2.2.2.2 hW.2.2.2.1) S (gd_V m_398 m_284 m_285 m_286 m_287) rfl rfl (by decide +kernel) ⟨Nat.le_of_ble_eq_true rfl, Nat.le_of_ble_eq_true rfl⟩ rfl hl.1 rfl (Nat.le_of_ble_eq_true rfl) ⟨Nat.le_of_ble_eq_true rfl, Nat.le_of_ble_eq_true rfl⟩ dX11_nameAt_9 ?_
    refine lv_icmp_ge (tgt := 114) S.1 S.2.1 dX11_nameAt_12 (by decide) (fun hc => ?_) (fun hc => ?_)
    · have hF := it_pos hc hF
      obtain rfl := Option.some.inj hF
      exact Ju1 _ _ _ ⟨_, rfl, lv_sub hl [] rfl, hW⟩
    · have hF := it_neg hc hF
      refine va_ldcS S.1 S.2.1 S.2.2.2.1 (k8 hW.2.2.2.2) dX11_nameAt_15 ?_
      refine lv_bipush (v := (32 : Int32)) S.1 S.2.1 dX11_nameAt_17 (by decide) ?_
      refine lv_iload S.1 S.2.1 dX11_nameAt_19 (lv_at hl 4 rfl) ?_
      obtain ⟨u4, hu4, hF⟩ := bd_of hF
      refine kc_i (k := 2) (As := [.int ((32 : Int32)), .int xu1.2]) (rest := []) (cK_indexOf l _ kk hu4) (fun U hU hw => hW.2.2.2.2.kept hW.2.2.2.1 hU hw) (fun _ _ _ _ h => h.same) (k8r hW.2.2.2.2 hW.2.2.2.1) S (gd_V m_399 m_400 m_401 m_286 m_402) rfl rfl (by decide +kernel) ⟨Nat.le_of_ble_eq_true rfl, Nat.le_of_ble_eq_true rfl⟩ rfl hl.1 rfl (Nat.le_of_ble_eq_true rfl) ⟨Nat.le_of_ble_eq_true rfl, Nat.le_of_ble_eq_true rfl⟩ dX11_nameAt_21 ?_
      refine lv_istore (lv' := [(5, .int u4), (0, .ref (ad 35)), (1, .int a1), (2, .int a2), (3, .int xu1.1), (4, .int xu1.2)]) S.1 S.2.1 dX11_nameAt_24 hl (by decide) rfl (fun ls hl => ?_)
      refine lv_iload S.1 S.2.1 dX11_nameAt_26 (lv_at hl 0 rfl) ?_
      refine lv_iload S.1 S.2.1 dX11_nameAt_28 (lv_at hl 5 rfl) ?_
      refine lv_isub S.1 S.2.1 dX11_nameAt_30 ?_
      refine lv_iload_n S.1 S.2.1 dX11_nameAt_31 rfl (lv_at hl 3 rfl) ?_
      refine lv_iload_n S.1 S.2.1 dX11_nameAt_32 rfl (lv_at hl 2 rfl) ?_
      refine lv_isub S.1 S.2.1 dX11_nameAt_33 ?_
      obtain ⟨u5, hX, hF⟩ := bd_of hF
      refine jn1 (fun H locs ls => lv_has ls 8 [(0, .ref (ad 35)), (1, .int a1), (2, .int a2), (3, .int xu1.1), (4, .int xu1.2), (5, .int u4)] ∧ RW D ad cA kk σ s (RA ad) H locs) 42 [.int u5] (fun H locs ls hJ => ?_) (fun Ju5 => ?_)
      · obtain ⟨hl, hW⟩ := hJ
        refine lv_istore (lv' := [(6, .int u5), (0, .ref (ad 35)), (1, .int a1), (2, .int a2), (3, .int xu1.1), (4, .int xu1.2), (5, .int u4)]) S.1 S.2.1 dX11_nameAt_42 hl (by decide) rfl (fun ls hl => ?_)
        refine lv_iconst (v := (0 : Int32)) S.1 S.2.1 dX11_nameAt_44 (by decide) ?_
        refine lv_istore (lv' := [(7, .int ((0 : Int32))), (6, .int u5), (0, .ref (ad 35)), (1, .int a1), (2, .int a2), (3, .int xu1.1), (4, .int xu1.2), (5, .int u4)]) S.1 S.2.1 dX11_nameAt_45 hl (by decide) rfl (fun ls hl => ?_)
        obtain ⟨u6, hX, hF⟩ := bd_of hF
        refine jn1 (fun H locs ls => lv_has ls 8 [(0, .ref (ad 35)), (1, .int a1), (2, .int a2), (3, .int xu1.1), (5, .int u4), (6, .int u6)] ∧ RW D ad cA kk σ s (RA ad) H locs) 95 [] (fun H locs ls hJ => ?_) (fun Ju6 => ?_)
        · obtain ⟨hl, hW⟩ := hJ
          refine lv_iload S.1 S.2.1 dX11_nameAt_95 (lv_at hl 5 rfl) ?_
          refine lv_if_eq (tgt := 102) S.1 S.2.1 dX11_nameAt_97 (by decide) (fun hc => ?_) (fun hc => ?_)
          · have hF := it_pos hc hF
            refine lv_iinc (v := (xu1.1 + (1 : Int32))) (lv' := [(3, .int ((xu1.1 + (1 : Int32)))), (0, .ref (ad 35)), (1, .int a1), (2, .int a2), (5, .int u4), (6, .int u6)]) S.1 S.2.1 dX11_nameAt_102 hl (k := 3) rfl rfl (by decide) rfl (fun ls hl => ?_)
            refine lv_iload S.1 S.2.1 dX11_nameAt_105 (lv_at hl 4 rfl) ?_
            refine lv_iconst (v := (1 : Int32)) S.1 S.2.1 dX11_nameAt_107 (by decide) ?_
            refine lv_iadd S.1 S.2.1 dX11_nameAt_108 ?_
            refine lv_istore (lv' := [(4, .int ((u4 + (1 : Int32)))), (3, .int ((xu1.1 + (1 : Int32)))), (0, .ref (ad 35)), (1, .int a1), (2, .int a2), (5, .int u4), (6, .int u6)]) S.1 S.2.1 dX11_nameAt_109 hl (by decide) rfl (fun ls hl => ?_)
            refine lv_goto (tgt := 5) S.1 S.2.1 dX11_nameAt_111 (by decide) ?_
            exact ihu1 ((xu1.1 + (1 : Int32)), (u4 + (1 : Int32))) hF _ _ _ ⟨lv_sub hl [2, 3, 4, 1, 0] rfl, hW⟩
          · have hF := it_neg hc hF
            refine lv_iload_n S.1 S.2.1 dX11_nameAt_100 rfl (lv_at hl 3 rfl) ?_
            obtain rfl := Option.some.inj hF
            have hF0 : some (xu1.1) = some o := hF0
            obtain rfl := Option.some.inj hF0
            exact rr_i S hr hlk hW rfl rfl dX11_nameAt_101
        · refine lpW (fun (xu6 : Int32 × Int32) H locs ls => lv_has ls 8 [(0, .ref (ad 35)), (1, .int a1), (2, .int a2), (3, .int xu1.1), (4, .int xu1.2), (5, .int u4), (6, .int xu6.1), (7, .int xu6.2)] ∧ RW D ad cA kk σ s (RA ad) H locs) 47 (fun n xu6 => fR_nameAt_L47 σ a1 a2 xu1.1 xu1.2 u4 n xu6.1 xu6.2) u6 (fun _ => rfl) (fun n xu6 ihu6 hF H locs ls hJ => ?_) 1000 (u5, (0 : Int32)) hX _ _ _ ⟨lv_sub hl [2, 3, 4, 5, 6, 7, 1, 0] rfl, hW⟩
          obtain ⟨hl, hW⟩ := hJ
          have hF : fR_nameAt_L47 σ a1 a2 xu1.1 xu1.2 u4 (n + 1) xu6.1 xu6.2 = some u6 := hF
          rw [fR_nameAt_L47] at hF
          refine lv_iload S.1 S.2.1 dX11_nameAt_47 (lv_at hl 6 rfl) ?_
          refine lv_if_eq (tgt := 95) S.1 S.2.1 dX11_nameAt_49 (by decide) (fun hc => ?_) (fun hc => ?_)
          · have hF := it_pos hc hF
            obtain rfl := Option.some.inj hF
            exact Ju6 _ _ _ ⟨lv_sub hl [0, 1, 2, 3, 5, 6] rfl, hW⟩
          · have hF := it_neg hc hF
            refine lv_iload S.1 S.2.1 dX11_nameAt_52 (lv_at hl 7 rfl) ?_
            refine lv_iload_n S.1 S.2.1 dX11_nameAt_54 rfl (lv_at hl 2 rfl) ?_
            refine lv_iload_n S.1 S.2.1 dX11_nameAt_55 rfl (lv_at hl 1 rfl) ?_
            refine lv_isub S.1 S.2.1 dX11_nameAt_56 ?_
            refine lv_icmp_ge (tgt := 95) S.1 S.2.1 dX11_nameAt_57 (by decide) (fun hc => ?_) (fun hc => ?_)
            · have hF := it_pos hc hF
              obtain rfl := Option.some.inj hF
              exact Ju6 _ _ _ ⟨lv_sub hl [0, 1, 2, 3, 5, 6] rfl, hW⟩
            · have hF := it_neg hc hF
              refine va_ldcS S.1 S.2.1 S.2.2.2.1 (k8 hW.2.2.2.2) dX11_nameAt_60 ?_
              refine lv_iload S.1 S.2.1 dX11_nameAt_62 (lv_at hl 4 rfl) ?_
              refine lv_iload S.1 S.2.1 dX11_nameAt_64 (lv_at hl 7 rfl) ?_
              refine lv_iadd S.1 S.2.1 dX11_nameAt_66 ?_
              obtain ⟨u8, hu8, hF⟩ := bd_of hF
              refine kc_i (k := 1) (As := [.int ((xu1.2 + xu6.2))]) (rest := []) (cK_charAt l _ kk hu8) (fun U hU hw => hW.2.2.2.2.kept hW.2.2.2.1 hU hw) (fun _ _ _ _ h => h.same) (k8r hW.2.2.2.2 hW.2.2.2.1) S (gd_V m_451 m_296 m_297 m_286 m_298) rfl rfl (by decide +kernel) ⟨Nat.le_of_ble_eq_true rfl, Nat.le_of_ble_eq_true rfl⟩ rfl hl.1 rfl (Nat.le_of_ble_eq_true rfl) ⟨Nat.le_of_ble_eq_true rfl, Nat.le_of_ble_eq_true rfl⟩ dX11_nameAt_67 ?_
              refine lv_aload_n S.1 S.2.1 dX11_nameAt_70 rfl (lv_at hl 0 rfl) ?_
              refine rg_tape S hW dX11_nameAt_71 ?_
              refine lv_iload_n S.1 S.2.1 dX11_nameAt_74 rfl (lv_at hl 1 rfl) ?_
              refine lv_iload S.1 S.2.1 dX11_nameAt_75 (lv_at hl 7 rfl) ?_
              refine lv_iadd S.1 S.2.1 dX11_nameAt_77 ?_
              obtain ⟨h9, hF⟩ := gd_of hF
              refine rl_tape S hW h9 dX11_nameAt_78 ?_
              obtain ⟨u10, hX, hF⟩ := bd_of hF
              refine jn1 (fun H locs ls => lv_has ls 8 [(0, .ref (ad 35)), (1, .int a1), (2, .int a2), (3, .int xu1.1), (4, .int xu1.2), (5, .int u4), (7, .int xu6.2)] ∧ RW D ad cA kk σ s (RA ad) H locs) 87 [.int u10] (fun H locs ls hJ => ?_) (fun Ju10 => ?_)
              · obtain ⟨hl, hW⟩ := hJ
                refine lv_istore (lv' := [(6, .int u10), (0, .ref (ad 35)), (1, .int a1), (2, .int a2), (3, .int xu1.1), (4, .int xu1.2), (5, .int u4), (7, .int xu6.2)]) S.1 S.2.1 dX11_nameAt_87 hl (by decide) rfl (fun ls hl => ?_)
                refine lv_iinc (v := (xu6.2 + (1 : Int32))) (lv' := [(7, .int ((xu6.2 + (1 : Int32)))), (6, .int u10), (0, .ref (ad 35)), (1, .int a1), (2, .int a2), (3, .int xu1.1), (4, .int xu1.2), (5, .int u4)]) S.1 S.2.1 dX11_nameAt_89 hl (k := 7) rfl rfl (by decide) rfl (fun ls hl => ?_)
                refine lv_goto (tgt := 47) S.1 S.2.1 dX11_nameAt_92 (by decide) ?_
                exact ihu6 (u10, (xu6.2 + (1 : Int32))) hF _ _ _ ⟨lv_sub hl [2, 3, 4, 5, 6, 7, 1, 0] rfl, hW⟩
              · have hF := hX
                refine lv_icmp_ne (tgt := 86) S.1 S.2.1 dX11_nameAt_79 (by decide) (fun hc => ?_) (fun hc => ?_)
                · have hF := it_neg hc hF
                  refine lv_iconst (v := (0 : Int32)) S.1 S.2.1 dX11_nameAt_86 (by decide) ?_
                  obtain rfl := Option.some.inj hF
                  exact Ju10 _ _ _ ⟨lv_sub hl [0, 1, 2, 3, 4, 5, 7] rfl, hW⟩
                · have hF := it_pos hc hF
                  refine lv_iconst (v := (1 : Int32)) S.1 S.2.1 dX11_nameAt_82 (by decide) ?_
                  refine lv_goto (tgt := 87) S.1 S.2.1 dX11_nameAt_83 (by decide) ?_
                  obtain rfl := Option.some.inj hF
                  exact Ju10 _ _ _ ⟨lv_sub hl [0, 1, 2, 3, 4, 5, 7] rfl, hW⟩
      · have hF := hX
        refine lv_icmp_ne (tgt := 41) S.1 S.2.1 dX11_nameAt_34 (by decide) (fun hc => ?_) (fun hc => ?_)
        · have hF := it_neg hc hF
          refine lv_iconst (v := (0 : Int32)) S.1 S.2.1 dX11_nameAt_41 (by decide) ?_
          obtain rfl := Option.some.inj hF
          exact Ju5 _ _ _ ⟨lv_sub hl [1, 2, 3, 4, 5, 0] rfl, hW⟩
        · have hF := it_pos hc hF
          refine lv_iconst (v := (1 : Int32)) S.1 S.2.1 dX11_nameAt_37 (by decide) ?_
          refine lv_goto (tgt := 42) S.1 S.2.1 dX11_nameAt_38 (by decide) ?_
          obtain rfl := Option.some.inj hF
          exact Ju5 _ _ _ ⟨lv_sub hl [1, 2, 3, 4, 5, 0] rfl, hW⟩
