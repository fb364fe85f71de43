def fC_Ju_bestBook_L9 : Nat → Int32 → Int32 → Int32 → Int32 → SC → Option (Int32 × SC)
  | 0, _, _, _, _, _ => none
  | n + 1, x1, x2, x3, x4, σ =>
    if (20 : Int32) ≤ x4 then
    some ((x1, σ))
    else
    Option.bind (fC_Ju_middleOf σ x4) (fun u1 =>
    Option.bind (fC_Ju_leadOver u1.2 u1.1) (fun u2 =>
    Option.bind (if x2 < u1.1 then
    some (x4, u1.1, u2)
    else
    if u1.1 = (-1 : Int32) then
    some (x1, x2, x3)
    else
    if u1.1 = x2 then
    if u2 ≤ x3 then
    some (x1, x2, x3)
    else
    some (x4, u1.1, u2)
    else
    some (x1, x2, x3)) (fun u3 =>
    fC_Ju_bestBook_L9 n u3.1 u3.2.1 u3.2.2 ((x4 + (1 : Int32))) u1.2)))
def fC_Ju_bestBook (σ : SC) : Option (Int32 × SC) :=
  Option.bind (fC_Ju_bestBook_L9 1000 ((-1 : Int32)) ((-1 : Int32)) ((0 : Int32)) ((0 : Int32)) σ) (fun u1 =>
  some (u1.1, u1.2))
set_option maxRecDepth 100000 in
set_option maxHeartbeats 4000000 in
theorem cC_Ju_bestBook (l : Launch) (D : va_G) (ad : Nat → Nat) (cA : Nat → ClassId) (kk : Nat → Nat) (A : Nat → Prop) (aM aC aE : Nat → Nat) (X : va_W) {σ : SC} {o : Int32 × SC} (hF : fC_Ju_bestBook σ = some o) : Mi l yX4_bestBook cX4_bestBook 7 .int { frames := 3, cells := 0, slots := 0, locals := 72 } [.ref (ad 18)] (CP D ad cA kk A aM aC aE X σ) o.1 (CP D ad cA kk A aM aC aE X (o.2)) A := by
  refine Mi.of (own := RX4) rfl (by decide +kernel) (Nat.le_of_ble_eq_true rfl) ?_
  intro p e s m args below meth c ls S hr hlk hP hl
  have hW := CW.start hP
  have hl : lv_has ls 7 [(0, .ref (ad 18))] := hl
  rw [fC_Ju_bestBook] at hF
  refine lv_iconst (v := (-1 : Int32)) S.1 S.2.1 dX4_bestBook_0 (by decide) ?_
  refine lv_istore_n (lv' := [(1, .int ((-1 : Int32))), (0, .ref (ad 18))]) S.1 S.2.1 dX4_bestBook_1 rfl hl (by decide) rfl (fun ls hl => ?_)
  refine lv_iconst (v := (-1 : Int32)) S.1 S.2.1 dX4_bestBook_2 (by decide) ?_
  refine lv_istore_n (lv' := [(2, .int ((-1 : Int32))), (1, .int ((-1 : Int32))), (0, .ref (ad 18))]) S.1 S.2.1 dX4_bestBook_3 rfl hl (by decide) rfl (fun ls hl => ?_)
  refine lv_iconst (v := (0 : Int32)) S.1 S.2.1 dX4_bestBook_4 (by decide) ?_
  refine lv_istore_n (lv' := [(3, .int ((0 : Int32))), (2, .int ((-1 : Int32))), (1, .int ((-1 : Int32))), (0, .ref (ad 18))]) S.1 S.2.1 dX4_bestBook_5 rfl hl (by decide) rfl (fun ls hl => ?_)
  refine lv_iconst (v := (0 : Int32)) S.1 S.2.1 dX4_bestBook_6 (by decide) ?_
  refine lv_istore (lv' := [(4, .int ((0 : Int32))), (3, .int ((0 : Int32))), (2, .int ((-1 : Int32))), (1, .int ((-1 : Int32))), (0, .ref (ad 18))]) S.1 S.2.1 dX4_bestBook_7 hl (by decide) rfl (fun ls hl => ?_)
  obtain ⟨u1, hX, hF⟩ := bd_of hF
  refine jn1 (fun H locs ls => lv_has ls 7 [(1, .int u1.1)] ∧ CW D ad cA kk A aM aC aE X u1.2 s H locs) 71 [] (fun H locs ls hJ => ?_) (fun Ju1 => ?_)
  · obtain ⟨hl, hW⟩ := hJ
    refine lv_iload_n S.1 S.2.1 dX4_bestBook_71 rfl (lv_at hl 0 rfl) ?_
    obtain rfl := Option.some.inj hF
    exact xr_i S hr hlk hW rfl rfl dX4_bestBook_72
  · refine lpW (fun (xu1 : Int32 × Int32 × Int32 × Int32 × SC) H locs ls => lv_has ls 7 [(0, .ref (ad 18)), (1, .int xu1.1), (2, .int xu1.2.1), (3, .int xu1.2.2.1), (4, .int xu1.2.2.2.1)] ∧ CW D ad cA kk A aM aC aE X xu1.2.2.2.2 s H locs) 9 (fun n xu1 => fC_Ju_bestBook_L9 n xu1.1 xu1.2.1 xu1.2.2.1 xu1.2.2.2.1 xu1.2.2.2.2) u1 (fun _ => rfl) (fun n xu1 ihu1 hF H locs ls hJ => ?_) 1000 ((-1 : Int32), (-1 : Int32), (0 : Int32), (0 : Int32), σ) hX _ _ _ ⟨lv_sub hl [4, 3, 2, 1, 0] rfl, hW⟩
    obtain ⟨hl, hW⟩ := hJ
    have hF : fC_Ju_bestBook_L9 (n + 1) xu1.1 xu1.2.1 xu1.2.2.1 xu1.2.2.2.1 xu1.2.2.2.2 = some u1 := hF
    rw [fC_Ju_bestBook_L9] at hF
    refine lv_iload S.1 S.2.1 dX4_bestBook_9 (lv_at hl 4 rfl) ?_
    refine lv_bipush (v := (20 : Int32)) S.1 S.2.1 dX4_bestBook_11 (by decide) ?_
    refine lv_icmp_ge (tgt := 71) S.1 S.2.1 dX4_bestBook_13 (by decide) (fun hc => ?_) (fun hc => ?_)
    · have hF := it_pos hc hF
      obtain rfl := Option.some.inj hF
      exact Ju1 _ _ _ ⟨lv_sub hl [1] rfl, hW⟩
    · have hF := it_neg hc hF
      refine lv_aload_n S.1 S.2.1 dX4_bestBook_16 rfl (lv_at hl 0 rfl) ?_
      refine lv_iload S.1 S.2.1 dX4_bestBook_17 (lv_at hl 4 rfl) ?_
      obtain ⟨u3, hu3, hF⟩ := bd_of hF
      refine xc_i (k := 1) (As := [.int xu1.2.2.2.1]) (rest := []) (cC_Ju_middleOf l D ad cA kk A aM aC aE X hu3) (xr_RX4 hW) S hW (gd_V m_1012 m_985 m_986 m_35 m_987) (by decide +kernel) ⟨Nat.le_of_ble_eq_true rfl, Nat.le_of_ble_eq_true rfl⟩ rfl hl.1 rfl (Nat.le_of_ble_eq_true rfl) ⟨Nat.le_of_ble_eq_true rfl, Nat.le_of_ble_eq_true rfl⟩ dX4_bestBook_19 (fun H locs hW => ?_)
      refine lv_istore (lv' := [(5, .int u3.1), (0, .ref (ad 18)), (1, .int xu1.1), (2, .int xu1.2.1), (3, .int xu1.2.2.1), (4, .int xu1.2.2.2.1)]) S.1 S.2.1 dX4_bestBook_22 hl (by decide) rfl (fun ls hl => ?_)
      refine lv_aload_n S.1 S.2.1 dX4_bestBook_24 rfl (lv_at hl 1 rfl) ?_
      refine lv_iload S.1 S.2.1 dX4_bestBook_25 (lv_at hl 0 rfl) ?_
      obtain ⟨u4, hu4, hF⟩ := bd_of hF
      refine xc_i (k := 1) (As := [.int u3.1]) (rest := []) (cC_Ju_leadOver l D ad cA kk A aM aC aE X hu4) (xr_RX4 hW) S hW (gd_V m_1013 m_1014 m_1015 m_35 m_1016) (by decide +kernel) ⟨Nat.le_of_ble_eq_true rfl, Nat.le_of_ble_eq_true rfl⟩ rfl hl.1 rfl (Nat.le_of_ble_eq_true rfl) ⟨Nat.le_of_ble_eq_true rfl, Nat.le_of_ble_eq_true rfl⟩ dX4_bestBook_27 (fun H locs hW => ?_)
      refine lv_istore (lv' := [(6, .int u4), (5, .int u3.1), (0, .ref (ad 18)), (1, .int xu1.1), (2, .int xu1.2.1), (3, .int xu1.2.2.1), (4, .int xu1.2.2.2.1)]) S.1 S.2.1 dX4_bestBook_30 hl (by decide) rfl (fun ls hl => ?_)
      refine lv_iload S.1 S.2.1 dX4_bestBook_32 (lv_at hl 1 rfl) ?_
      refine lv_iload_n S.1 S.2.1 dX4_bestBook_34 rfl (lv_at hl 4 rfl) ?_
      obtain ⟨u5, hX, hF⟩ := bd_of hF
      refine jn1 (fun H locs ls => lv_has ls 7 [(0, .ref (ad 18)), (1, .int u5.1), (2, .int u5.2.1), (3, .int u5.2.2), (4, .int xu1.2.2.2.1)] ∧ CW D ad cA kk A aM aC aE X u3.2 s H locs) 65 [] (fun H locs ls hJ => ?_) (fun Ju5 => ?_)
      · obtain ⟨hl, hW⟩ := hJ
        refine lv_iinc (v := (xu1.2.2.2.1 + (1 : Int32))) (lv' := [(4, .int ((xu1.2.2.2.1 + (1 : Int32)))), (0, .ref (ad 18)), (1, .int u5.1), (2, .int u5.2.1), (3, .int u5.2.2)]) S.1 S.2.1 dX4_bestBook_65 hl (k := 4) rfl rfl (by decide) rfl (fun ls hl => ?_)
        refine lv_goto (tgt := 9) S.1 S.2.1 dX4_bestBook_68 (by decide) ?_
        exact ihu1 (u5.1, u5.2.1, u5.2.2, (xu1.2.2.2.1 + (1 : Int32)), u3.2) hF _ _ _ ⟨lv_sub hl [1, 2, 3, 4, 0] rfl, hW⟩
      · have hF := hX
        refine lv_icmp_gt (tgt := 56) S.1 S.2.1 dX4_bestBook_35 (by decide) (fun hc => ?_) (fun hc => ?_)
        · have hF := it_pos hc hF
          refine lv_iload S.1 S.2.1 dX4_bestBook_56 (lv_at hl 6 rfl) ?_
          refine lv_istore_n (lv' := [(1, .int xu1.2.2.2.1), (6, .int u4), (5, .int u3.1), (0, .ref (ad 18)), (2, .int xu1.2.1), (3, .int xu1.2.2.1), (4, .int xu1.2.2.2.1)]) S.1 S.2.1 dX4_bestBook_58 rfl hl (by decide) rfl (fun ls hl => ?_)
          refine lv_iload S.1 S.2.1 dX4_bestBook_59 (lv_at hl 2 rfl) ?_
          refine lv_istore_n (lv' := [(2, .int u3.1), (1, .int xu1.2.2.2.1), (6, .int u4), (5, .int u3.1), (0, .ref (ad 18)), (3, .int xu1.2.2.1), (4, .int xu1.2.2.2.1)]) S.1 S.2.1 dX4_bestBook_61 rfl hl (by decide) rfl (fun ls hl => ?_)
          refine lv_iload S.1 S.2.1 dX4_bestBook_62 (lv_at hl 2 rfl) ?_
          refine lv_istore_n (lv' := [(3, .int u4), (2, .int u3.1), (1, .int xu1.2.2.2.1), (6, .int u4), (5, .int u3.1), (0, .ref (ad 18)), (4, .int xu1.2.2.2.1)]) S.1 S.2.1 dX4_bestBook_64 rfl hl (by decide) rfl (fun ls hl => ?_)
          obtain rfl := Option.some.inj hF
          exact Ju5 _ _ _ ⟨lv_sub hl [5, 2, 1, 0, 6] rfl, hW⟩
        · have hF := it_neg hc hF
          refine lv_iload S.1 S.2.1 dX4_bestBook_38 (lv_at hl 1 rfl) ?_
          refine lv_iconst (v := (-1 : Int32)) S.1 S.2.1 dX4_bestBook_40 (by decide) ?_
          refine lv_icmp_eq (tgt := 65) S.1 S.2.1 dX4_bestBook_41 (by decide) (fun hc => ?_) (fun hc => ?_)
          · have hF := it_pos hc hF
            obtain rfl := Option.some.inj hF
            exact Ju5 _ _ _ ⟨lv_sub hl [2, 3, 4, 5, 6] rfl, hW⟩
          · have hF := it_neg hc hF
            refine lv_iload S.1 S.2.1 dX4_bestBook_44 (lv_at hl 1 rfl) ?_
            refine lv_iload_n S.1 S.2.1 dX4_bestBook_46 rfl (lv_at hl 4 rfl) ?_
            refine lv_icmp_ne (tgt := 65) S.1 S.2.1 dX4_bestBook_47 (by decide) (fun hc => ?_) (fun hc => ?_)
            · have hF := it_neg hc hF
              obtain rfl := Option.some.inj hF
              exact Ju5 _ _ _ ⟨lv_sub hl [2, 3, 4, 5, 6] rfl, hW⟩
            · have hF := it_pos hc hF
              refine lv_iload S.1 S.2.1 dX4_bestBook_50 (lv_at hl 0 rfl) ?_
              refine lv_iload_n S.1 S.2.1 dX4_bestBook_52 rfl (lv_at hl 5 rfl) ?_
              refine lv_icmp_le (tgt := 65) S.1 S.2.1 dX4_bestBook_53 (by decide) (fun hc => ?_) (fun hc => ?_)
              · have hF := it_pos hc hF
                obtain rfl := Option.some.inj hF
                exact Ju5 _ _ _ ⟨lv_sub hl [2, 3, 4, 5, 6] rfl, hW⟩
              · have hF := it_neg hc hF
                refine lv_iload S.1 S.2.1 dX4_bestBook_56 (lv_at hl 6 rfl) ?_
                refine lv_istore_n (lv' := [(1, .int xu1.2.2.2.1), (6, .int u4), (5, .int u3.1), (0, .ref (ad 18)), (2, .int xu1.2.1), (3, .int xu1.2.2.1), (4, .int xu1.2.2.2.1)]) S.1 S.2.1 dX4_bestBook_58 rfl hl (by decide) rfl (fun ls hl => ?_)
                refine lv_iload S.1 S.2.1 dX4_bestBook_59 (lv_at hl 2 rfl) ?_
                refine lv_istore_n (lv' := [(2, .int u3.1), (1, .int xu1.2.2.2.1), (6, .int u4), (5, .int u3.1), (0, .ref (ad 18)), (3, .int xu1.2.2.1), (4, .int xu1.2.2.2.1)]) S.1 S.2.1 dX4_bestBook_61 rfl hl (by decide) rfl (fun ls hl => ?_)
                refine lv_iload S.1 S.2.1 dX4_bestBook_62 (lv_at hl 2 rfl) ?_
                refine lv_istore_n (lv' := [(3, .int u4), (2, .int u3.1), (1, .int xu1.2.2.2.1), (6, .int u4), (5, .int u3.1), (0, .ref (ad 18)), (4, .int xu1.2.2.2.1)]) S.1 S.2.1 dX4_bestBook_64 rfl hl (by decide) rfl (fun ls hl => ?_)
                obtain rfl := Option.some.inj hF
                exact Ju5 _ _ _ ⟨lv_sub hl [5, 2, 1, 0, 6] rfl, hW⟩
def fC_B_feed (σ : SC) (a1 : Int32) (a2 : Int32) (a3 : Int32) (a4 : Int32) (a5 : Int32) : Option (Int32 × SC) :=
  Option.bind (fC_Ta_hasRoomFor σ ((20 : Int32))) (fun u1 =>
  if u1 = 0 then
  some ((-1 : Int32), σ)
  else
  Option.bind (fC_Ta_addNumber σ a1) (fun u2 =>
  Option.bind (fC_Ta_addNumber u2 a2) (fun u3 =>
  Option.bind (fC_Ta_addNumber u3 a3) (fun u4 =>
  Option.bind (fC_Ta_addNumber u4 a4) (fun u5 =>
  Option.bind (fC_Ta_addNumber u5 a5) (fun u6 =>
  some ((xz u6 0), u6)))))))
set_option maxRecDepth 100000 in
set_option maxHeartbeats 4000000 in
theorem cC_B_feed (l : Launch) (D : va_G) (ad : Nat → Nat) (cA : Nat → ClassId) (kk : Nat → Nat) (A : Nat → Prop) (aM aC aE : Nat → Nat) (X : va_W) {σ : SC} {a1 : Int32} {a2 : Int32} {a3 : Int32} {a4 : Int32} {a5 : Int32} {o : Int32 × SC} (hF : fC_B_feed σ a1 a2 a3 a4 a5 = some o) : Mi l yX10_feed cX10_feed 6 .int { frames := 2, cells := 0, slots := 0, locals := 43 } [.ref (ad 0), .int a1, .int a2, .int a3, .int a4, .int a5] (CP D ad cA kk A aM aC aE X σ) o.1 (CP D ad cA kk A aM aC aE X (o.2)) A := by
  refine Mi.of (own := RX10) rfl (by decide +kernel) (Nat.le_of_ble_eq_true rfl) ?_
  intro p e s m args below meth c ls S hr hlk hP hl
  have hW := CW.start hP
  have hl : lv_has ls 6 [(0, .ref (ad 0)), (1, .int a1), (2, .int a2), (3, .int a3), (4, .int a4), (5, .int a5)] := hl
  rw [fC_B_feed] at hF
  refine lv_aload_n S.1 S.2.1 dX10_feed_0 rfl (lv_at hl 0 rfl) ?_
  refine xg_X10_10 S hW dX10_feed_1 ?_
  refine lv_bipush (v := (20 : Int32)) S.1 S.2.1 dX10_feed_4 (by decide) ?_
  obtain ⟨u1, hu1, hF⟩ := bd_of hF
  refine xc_i (k := 1) (As := [.int ((20 : Int32))]) (rest := []) (cC_Ta_hasRoomFor l D ad cA kk A aM aC aE X hu1) (xr_RX8 hW) S hW (gd_V m_212 m_213 m_214 m_15 m_215) (by decide +kernel) ⟨Nat.le_of_ble_eq_true rfl, Nat.le_of_ble_eq_true rfl⟩ rfl hl.1 rfl (Nat.le_of_ble_eq_true rfl) ⟨Nat.le_of_ble_eq_true rfl, Nat.le_of_ble_eq_true rfl⟩ dX10_feed_6 (fun H locs hW => ?_)
  refine lv_if_ne (tgt := 14) S.1 S.2.1 dX10_feed_9 (by decide) (fun hc => ?_) (fun hc => ?_)
  · have hF := it_neg hc hF
    refine lv_aload_n S.1 S.2.1 dX10_feed_14 rfl (lv_at hl 0 rfl) ?_
    refine xg_X10_10 S hW dX10_feed_15 ?_
    refine lv_iload_n S.1 S.2.1 dX10_feed_18 rfl (lv_at hl 1 rfl) ?_
    obtain ⟨u2, hu2, hF⟩ := bd_of hF
    refine xc_v (k := 1) (As := [.int a1]) (rest := []) (cC_Ta_addNumber l D ad cA kk A aM aC aE X hu2) (xr_RX8 hW) S hW (gd_V m_216 m_217 m_218 m_15 m_219) (by decide +kernel) ⟨Nat.le_of_ble_eq_true rfl, Nat.le_of_ble_eq_true rfl⟩ rfl hl.1 rfl (Nat.le_of_ble_eq_true rfl) ⟨Nat.le_of_ble_eq_true rfl, Nat.le_of_ble_eq_true rfl⟩ dX10_feed_19 (fun H locs hW => ?_)
    refine lv_aload_n S.1 S.2.1 dX10_feed_22 rfl (lv_at hl 0 rfl) ?_
    refine xg_X10_10 S hW dX10_feed_23 ?_
    refine lv_iload_n S.1 S.2.1 dX10_feed_26 rfl (lv_at hl 2 rfl) ?_
    obtain ⟨u3, hu3, hF⟩ := bd_of hF
    refine xc_v (k := 1) (As := [.int a2]) (rest := []) (cC_Ta_addNumber l D ad cA kk A aM aC aE X hu3) (xr_RX8 hW) S hW (gd_V m_216 m_217 m_218 m_15 m_219) (by decide +kernel) ⟨Nat.le_of_ble_eq_true rfl, Nat.le_of_ble_eq_true rfl⟩ rfl hl.1 rfl (Nat.le_of_ble_eq_true rfl) ⟨Nat.le_of_ble_eq_true rfl, Nat.le_of_ble_eq_true rfl⟩ dX10_feed_27 (fun H locs hW => ?_)
    refine lv_aload_n S.1 S.2.1 dX10_feed_30 rfl (lv_at hl 0 rfl) ?_
    refine xg_X10_10 S hW dX10_feed_31 ?_
    refine lv_iload_n S.1 S.2.1 dX10_feed_34 rfl (lv_at hl 3 rfl) ?_
    obtain ⟨u4, hu4, hF⟩ := bd_of hF
    refine xc_v (k := 1) (As := [.int a3]) (rest := []) (cC_Ta_addNumber l D ad cA kk A aM aC aE X hu4) (xr_RX8 hW) S hW (gd_V m_216 m_217 m_218 m_15 m_219) (by decide +kernel) ⟨Nat.le_of_ble_eq_true rfl, Nat.le_of_ble_eq_true rfl⟩ rfl hl.1 rfl (Nat.le_of_ble_eq_true rfl) ⟨Nat.le_of_ble_eq_true rfl, Nat.le_of_ble_eq_true rfl⟩ dX10_feed_35 (fun H locs hW => ?_)
    refine lv_aload_n S.1 S.2.1 dX10_feed_38 rfl (lv_at hl 0 rfl) ?_
    refine xg_X10_10 S hW dX10_feed_39 ?_
    refine lv_iload S.1 S.2.1 dX10_feed_42 (lv_at hl 4 rfl) ?_
    obtain ⟨u5, hu5, hF⟩ := bd_of hF
    refine xc_v (k := 1) (As := [.int a4]) (rest := []) (cC_Ta_addNumber l D ad cA kk A aM aC aE X hu5) (xr_RX8 hW) S hW (gd_V m_216 m_217 m_218 m_15 m_219) (by decide +kernel) ⟨Nat.le_of_ble_eq_true rfl, Nat.le_of_ble_eq_true rfl⟩ rfl hl.1 rfl (Nat.le_of_ble_eq_true rfl) ⟨Nat.le_of_ble_eq_true rfl, Nat.le_of_ble_eq_true rfl⟩ dX10_feed_44 (fun H locs hW => ?_)
    refine lv_aload_n S.1 S.2.1 dX10_feed_47 rfl (lv_at hl 0 rfl) ?_
    refine xg_X10_10 S hW dX10_feed_48 ?_
    refine lv_iload S.1 S.2.1 dX10_feed_51 (lv_at hl 5 rfl) ?_
    obtain ⟨u6, hu6, hF⟩ := bd_of hF
    refine xc_v (k := 1) (As := [.int a5]) (rest := []) (cC_Ta_addNumber l D ad cA kk A aM aC aE X hu6) (xr_RX8 hW) S hW (gd_V m_216 m_217 m_218 m_15 m_219) (by decide +kernel) ⟨Nat.le_of_ble_eq_true rfl, Nat.le_of_ble_eq_true rfl⟩ rfl hl.1 rfl (Nat.le_of_ble_eq_true rfl) ⟨Nat.le_of_ble_eq_true rfl, Nat.le_of_ble_eq_true rfl⟩ dX10_feed_53 (fun H locs hW => ?_)
    refine lv_aload_n S.1 S.2.1 dX10_feed_56 rfl (lv_at hl 0 rfl) ?_
    refine xg_X10_10 S hW dX10_feed_57 ?_
    refine xg_X10_63 S hW dX10_feed_60 ?_
    obtain rfl := Option.some.inj hF
    exact xr_i S hr hlk hW rfl rfl dX10_feed_63
  · have hF := it_pos hc hF
    refine lv_iconst (v := (-1 : Int32)) S.1 S.2.1 dX10_feed_12 (by decide) ?_
    obtain rfl := Option.some.inj hF
    exact xr_i S hr hlk hW rfl rfl dX10_feed_13
def fC_Tr_readName_L10 (l1 : Int32) : Nat → SC → Option (SC)
  | 0, _ => none
  | n + 1, σ =>
    if (200 : Int32) ≤ (xz σ 3) then
    some ((σ))
    else
    Option.bind (fC_Ta_byteAt σ ((xz σ 3))) (fun u1 =>
    Option.bind (fC_isWithin u1 ((97 : Int32)) ((122 : Int32))) (fun u2 =>
    if u2 = 0 then
    some ((σ))
    else
    fC_Tr_readName_L10 l1 n (yz σ 3 (((xz σ 3) + (1 : Int32))))))
def fC_Tr_readName (σ : SC) : Option (Int32 × SC) :=
  Option.bind (fC_Tr_nextSign σ) (fun u1 =>
  Option.bind (fC_Tr_readName_L10 ((xz u1.2 3)) 1000 u1.2) (fun u2 =>
  Option.bind (fC_Tr_nameBetween u2 ((xz u1.2 3)) ((xz u2 3))) (fun u6 =>
  if u6 = (-1 : Int32) then
  Option.bind (fC_Tr_fail u2 ((1 : Int32)) ((xz u1.2 3))) (fun u9 =>
  some ((-1 : Int32), u9.2))
  else
  Option.bind (fC_Rb_isFull u2) (fun u7 =>
  if u7 = 0 then
  some (u6, u2)
  else
  Option.bind (fC_Tr_fail u2 ((3 : Int32)) ((xz u1.2 3))) (fun u8 =>
  some ((-1 : Int32), u8.2))))))
set_option maxRecDepth 100000 in
set_option maxHeartbeats 4000000 in
theorem cC_Tr_readName (l : Launch) (D : va_G) (ad : Nat → Nat) (cA : Nat → ClassId) (kk : Nat → Nat) (A : Nat → Prop) (aM aC aE : Nat → Nat) (X : va_W) {σ : SC} {o : Int32 × SC} (hF : fC_Tr_readName σ = some o) : Mi l yX9_readName cX9_readName 3 .int { frames := 6, cells := 0, slots := 0, locals := 132 } [.ref (ad 7)] (CP D ad cA kk A aM aC aE X σ) o.1 (CP D ad cA kk A aM aC aE X (o.2)) A := by
  refine Mi.of (own := RX9) rfl (by decide +kernel) (Nat.le_of_ble_eq_true rfl) ?_
  intro p e s m args below meth c ls S hr hlk hP hl
  have hW := CW.start hP
  have hl : lv_has ls 3 [(0, .ref (ad 7))] := hl
  rw [fC_Tr_readName] at hF
  refine lv_aload_n S.1 S.2.1 dX9_readName_0 rfl (lv_at hl 0 rfl) ?_
  obtain ⟨u1, hu1, hF⟩ := bd_of hF
  refine xc_i (k := 0) (As := []) (rest := []) (cC_Tr_nextSign l D ad cA kk A aM aC aE X hu1) (xr_RX9 hW) S hW (gd_V m_264 m_265 m_266 m_23 m_267) (by decide +kernel) ⟨Nat.le_of_ble_eq_true rfl, Nat.le_of_ble_eq_true rfl⟩ rfl hl.1 rfl (Nat.le_of_ble_eq_true rfl) ⟨Nat.le_of_ble_eq_true rfl, Nat.le_of_ble_eq_true rfl⟩ dX9_readName_1 (fun H locs hW => ?_)
  refine lv_pop S.1 S.2.1 dX9_readName_4 rfl ?_
  refine lv_aload_n S.1 S.2.1 dX9_readName_5 rfl (lv_at hl 0 rfl) ?_
  refine xg_X9_19 S hW dX9_readName_6 ?_
  refine lv_istore_n (lv' := [(1, .int ((xz u1.2 3))), (0, .ref (ad 7))]) S.1 S.2.1 dX9_readName_9 rfl hl (by decide) rfl (fun ls hl => ?_)
  obtain ⟨u2, hX, hF⟩ := bd_of hF
  refine jn1 (fun H locs ls => lv_has ls 3 [(0, .ref (ad 7)), (1, .int ((xz u1.2 3)))] ∧ CW D ad cA kk A aM aC aE X u2 s H locs) 54 [] (fun H locs ls hJ => ?_) (fun Ju2 => ?_)
  · obtain ⟨hl, hW⟩ := hJ
    refine lv_aload_n S.1 S.2.1 dX9_readName_54 rfl (lv_at hl 0 rfl) ?_
    refine lv_iload_n S.1 S.2.1 dX9_readName_55 rfl (lv_at hl 1 rfl) ?_
    refine lv_aload_n S.1 S.2.1 dX9_readName_56 rfl (lv_at hl 0 rfl) ?_
    refine xg_X9_19 S hW dX9_readName_57 ?_
    obtain ⟨u6, hu6, hF⟩ := bd_of hF
    refine xc_i (k := 2) (As := [.int ((xz u1.2 3)), .int ((xz u2 3))]) (rest := []) (cC_Tr_nameBetween l D ad cA kk A aM aC aE X hu6) (xr_RX9 hW) S hW (gd_V m_272 m_273 m_274 m_23 m_275) (by decide +kernel) ⟨Nat.le_of_ble_eq_true rfl, Nat.le_of_ble_eq_true rfl⟩ rfl hl.1 rfl (Nat.le_of_ble_eq_true rfl) ⟨Nat.le_of_ble_eq_true rfl, Nat.le_of_ble_eq_true rfl⟩ dX9_readName_60 (fun H locs hW => ?_)
    refine lv_istore_n (lv' := [(2, .int u6), (0, .ref (ad 7)), (1, .int ((xz u1.2 3)))]) S.1 S.2.1 dX9_readName_63 rfl hl (by decide) rfl (fun ls hl => ?_)
    refine lv_iload_n S.1 S.2.1 dX9_readName_64 rfl (lv_at hl 0 rfl) ?_
    refine lv_iconst (v := (-1 : Int32)) S.1 S.2.1 dX9_readName_65 (by decide) ?_
    refine lv_icmp_ne (tgt := 78) S.1 S.2.1 dX9_readName_66 (by decide) (fun hc => ?_) (fun hc => ?_)
    · have hF := it_neg hc hF
      refine lv_aload_n S.1 S.2.1 dX9_readName_78 rfl (lv_at hl 1 rfl) ?_
      refine xg_X9_15 S hW dX9_readName_79 ?_
      obtain ⟨u7, hu7, hF⟩ := bd_of hF
      refine xc_i (k := 0) (As := []) (rest := []) (cC_Rb_isFull l D ad cA kk A aM aC aE X hu7) (xr_RX7 hW) S hW (gd_V m_336 m_337 m_338 m_19 m_339) (by decide +kernel) ⟨Nat.le_of_ble_eq_true rfl, Nat.le_of_ble_eq_true rfl⟩ rfl hl.1 rfl (Nat.le_of_ble_eq_true rfl) ⟨Nat.le_of_ble_eq_true rfl, Nat.le_of_ble_eq_true rfl⟩ dX9_readName_82 (fun H locs hW => ?_)
      refine lv_if_eq (tgt := 97) S.1 S.2.1 dX9_readName_85 (by decide) (fun hc => ?_) (fun hc => ?_)
      · have hF := it_pos hc hF
        refine lv_iload_n S.1 S.2.1 dX9_readName_97 rfl (lv_at hl 0 rfl) ?_
        obtain rfl := Option.some.inj hF
        exact xr_i S hr hlk hW rfl rfl dX9_readName_98
      · have hF := it_neg hc hF
        refine lv_aload_n S.1 S.2.1 dX9_readName_88 rfl (lv_at hl 1 rfl) ?_
        refine lv_iconst (v := (3 : Int32)) S.1 S.2.1 dX9_readName_89 (by decide) ?_
        refine lv_iload_n S.1 S.2.1 dX9_readName_90 rfl (lv_at hl 2 rfl) ?_
        obtain ⟨u8, hu8, hF⟩ := bd_of hF
        refine xc_i (k := 2) (As := [.int ((3 : Int32)), .int ((xz u1.2 3))]) (rest := []) (cC_Tr_fail l D ad cA kk A aM aC aE X hu8) (xr_RX9 hW) S hW (gd_V m_332 m_333 m_334 m_23 m_335) (by decide +kernel) ⟨Nat.le_of_ble_eq_true rfl, Nat.le_of_ble_eq_true rfl⟩ rfl hl.1 rfl (Nat.le_of_ble_eq_true rfl) ⟨Nat.le_of_ble_eq_true rfl, Nat.le_of_ble_eq_true rfl⟩ dX9_readName_91 (fun H locs hW => ?_)
        refine lv_pop S.1 S.2.1 dX9_readName_94 rfl ?_
        refine lv_iconst (v := (-1 : Int32)) S.1 S.2.1 dX9_readName_95 (by decide) ?_
        obtain rfl := Option.some.inj hF
        exact xr_i S hr hlk hW rfl rfl dX9_readName_96
    · have hF := it_pos hc hF
      refine lv_aload_n S.1 S.2.1 dX9_readName_69 rfl (lv_at hl 1 rfl) ?_
      refine lv_iconst (v := (1 : Int32)) S.1 S.2.1 dX9_readName_70 (by decide) ?_
      refine lv_iload_n S.1 S.2.1 dX9_readName_71 rfl (lv_at hl 2 rfl) ?_
      obtain ⟨u9, hu9, hF⟩ := bd_of hF
      refine xc_i (k := 2) (As := [.int ((1 : Int32)), .int ((xz u1.2 3))]) (rest := []) (cC_Tr_fail l D ad cA kk A aM aC aE X hu9) (xr_RX9 hW) S hW (gd_V m_332 m_333 m_334 m_23 m_335) (by decide +kernel) ⟨Nat.le_of_ble_eq_true rfl, Nat.le_of_ble_eq_true rfl⟩ rfl hl.1 rfl (Nat.le_of_ble_eq_true rfl) ⟨Nat.le_of_ble_eq_true rfl, Nat.le_of_ble_eq_true rfl⟩ dX9_readName_72 (fun H locs hW => ?_)
      refine lv_pop S.1 S.2.1 dX9_readName_75 rfl ?_
      refine lv_iconst (v := (-1 : Int32)) S.1 S.2.1 dX9_readName_76 (by decide) ?_
      obtain rfl := Option.some.inj hF
      exact xr_i S hr hlk hW rfl rfl dX9_readName_77
  · refine lpW (fun (xu2 : SC) H locs ls => lv_has ls 3 [(0, .ref (ad 7)), (1, .int ((xz u1.2 3)))] ∧ CW D ad cA kk A aM aC aE X xu2 s H locs) 10 (fun n xu2 => fC_Tr_readName_L10 ((xz u1.2 3)) n xu2) u2 (fun _ => rfl) (fun n xu2 ihu2 hF H locs ls hJ => ?_) 1000 (u1.2) hX _ _ _ ⟨lv_sub hl [1, 0] rfl, hW⟩
    obtain ⟨hl, hW⟩ := hJ
    have hF : fC_Tr_readName_L10 ((xz u1.2 3)) (n + 1) xu2 = some u2 := hF
    rw [fC_Tr_readName_L10] at hF
    refine lv_aload_n S.1 S.2.1 dX9_readName_10 rfl (lv_at hl 0 rfl) ?_
    refine xg_X9_19 S hW dX9_readName_11 ?_
    refine lv_sipush (v := (200 : Int32)) S.1 S.2.1 dX9_readName_14 (by decide) ?_
    refine lv_icmp_ge (tgt := 54) S.1 S.2.1 dX9_readName_17 (by decide) (fun hc => ?_) (fun hc => ?_)
    · have hF := it_pos hc hF
      obtain rfl := Option.some.inj hF
      exact Ju2 _ _ _ ⟨lv_sub hl [0, 1] rfl, hW⟩
    · have hF := it_neg hc hF
      refine lv_aload_n S.1 S.2.1 dX9_readName_20 rfl (lv_at hl 0 rfl) ?_
      refine xg_X9_9 S hW dX9_readName_21 ?_
      refine lv_aload_n S.1 S.2.1 dX9_readName_24 rfl (lv_at hl 0 rfl) ?_
      refine xg_X9_19 S hW dX9_readName_25 ?_
      obtain ⟨u4, hu4, hF⟩ := bd_of hF
      refine xc_i (k := 1) (As := [.int ((xz xu2 3))]) (rest := []) (cC_Ta_byteAt l D ad cA kk A aM aC aE X hu4) (xr_RX8 hW) S hW (gd_V m_268 m_269 m_270 m_15 m_271) (by decide +kernel) ⟨Nat.le_of_ble_eq_true rfl, Nat.le_of_ble_eq_true rfl⟩ rfl hl.1 rfl (Nat.le_of_ble_eq_true rfl) ⟨Nat.le_of_ble_eq_true rfl, Nat.le_of_ble_eq_true rfl⟩ dX9_readName_28 (fun H locs hW => ?_)
      refine lv_bipush (v := (97 : Int32)) S.1 S.2.1 dX9_readName_31 (by decide) ?_
      refine lv_bipush (v := (122 : Int32)) S.1 S.2.1 dX9_readName_33 (by decide) ?_
      obtain ⟨u5, hu5, hF⟩ := bd_of hF
      refine sc_iN (k := 3) (As := [.int u4, .int ((97 : Int32)), .int ((122 : Int32))]) (rest := []) (cC_isWithin l hu5) S hW.2.1.2.2.1 nw_21 m_242 m_2 m_243 rfl rfl (by decide +kernel) ⟨Nat.le_of_ble_eq_true rfl, Nat.le_of_ble_eq_true rfl⟩ rfl hl.1 rfl (Nat.le_of_ble_eq_true rfl) ⟨Nat.le_of_ble_eq_true rfl, Nat.le_of_ble_eq_true rfl⟩ dX9_readName_35 ?_
      refine lv_if_eq (tgt := 54) S.1 S.2.1 dX9_readName_38 (by decide) (fun hc => ?_) (fun hc => ?_)
      · have hF := it_pos hc hF
        obtain rfl := Option.some.inj hF
        exact Ju2 _ _ _ ⟨lv_sub hl [0, 1] rfl, hW⟩
      · have hF := it_neg hc hF
        refine lv_aload_n S.1 S.2.1 dX9_readName_41 rfl (lv_at hl 0 rfl) ?_
        refine lv_dup S.1 S.2.1 dX9_readName_42 rfl ?_
        refine xg_X9_19 S hW dX9_readName_43 ?_
        refine lv_iconst (v := (1 : Int32)) S.1 S.2.1 dX9_readName_46 (by decide) ?_
        refine lv_iadd S.1 S.2.1 dX9_readName_47 ?_
        refine xp_X9_19 S hW dX9_readName_48 (fun H locs hW => ?_)
        refine lv_goto (tgt := 10) S.1 S.2.1 dX9_readName_51 (by decide) ?_
        exact ihu2 (yz xu2 3 (((xz xu2 3) + (1 : Int32)))) hF _ _ _ ⟨lv_sub hl [0, 1] rfl, hW⟩
def fC_B_choice (σ : SC) (a1 : Int32) (a2 : Int32) : Option (Int32 × SC) :=
  Option.bind (fC_Cl_tellChoice σ a1 a2) (fun u1 =>
  some (u1.1, u1.2))
set_option maxRecDepth 100000 in
set_option maxHeartbeats 4000000 in
theorem cC_B_choice (l : Launch) (D : va_G) (ad : Nat → Nat) (cA : Nat → ClassId) (kk : Nat → Nat) (A : Nat → Prop) (aM aC aE : Nat → Nat) (X : va_W) {σ : SC} {a1 : Int32} {a2 : Int32} {o : Int32 × SC} (hF : fC_B_choice σ a1 a2 = some o) : Mi l yX10_choice cX10_choice 3 .int { frames := 3, cells := 0, slots := 0, locals := 66 } [.ref (ad 0), .int a1, .int a2] (CP D ad cA kk A aM aC aE X σ) o.1 (CP D ad cA kk A aM aC aE X (o.2)) A := by
  refine Mi.of (own := RX10) rfl (by decide +kernel) (Nat.le_of_ble_eq_true rfl) ?_
  intro p e s m args below meth c ls S hr hlk hP hl
  have hW := CW.start hP
  have hl : lv_has ls 3 [(0, .ref (ad 0)), (1, .int a1), (2, .int a2)] := hl
  rw [fC_B_choice] at hF
  refine lv_aload_n S.1 S.2.1 dX10_choice_0 rfl (lv_at hl 0 rfl) ?_
  refine xg_X10_37 S hW dX10_choice_1 ?_
  refine lv_iload_n S.1 S.2.1 dX10_choice_4 rfl (lv_at hl 1 rfl) ?_
  refine lv_iload_n S.1 S.2.1 dX10_choice_5 rfl (lv_at hl 2 rfl) ?_
  obtain ⟨u1, hu1, hF⟩ := bd_of hF
  refine xc_i (k := 2) (As := [.int a1, .int a2]) (rest := []) (cC_Cl_tellChoice l D ad cA kk A aM aC aE X hu1) (xr_RX2 hW) S hW (gd_V m_674 m_675 m_676 m_27 m_677) (by decide +kernel) ⟨Nat.le_of_ble_eq_true rfl, Nat.le_of_ble_eq_true rfl⟩ rfl hl.1 rfl (Nat.le_of_ble_eq_true rfl) ⟨Nat.le_of_ble_eq_true rfl, Nat.le_of_ble_eq_true rfl⟩ dX10_choice_6 (fun H locs hW => ?_)
  obtain rfl := Option.some.inj hF
  exact xr_i S hr hlk hW rfl rfl dX10_choice_9
def fC_B_refuse (σ : SC) (a1 : Int32) (a2 : Int32) : Option (Int32 × SC) :=
  Option.bind (fC_Cl_findMember σ a1) (fun u1 =>
  onull u1
  (Option.bind (fC_Cl_takeRefusal σ none a2) (fun u2 =>
  some (u2.1, u2.2)))
  (fun iu1 =>
  Option.bind (fC_Cl_takeRefusal σ (some iu1) a2) (fun u3 =>
  some (u3.1, u3.2))))
set_option maxRecDepth 100000 in
set_option maxHeartbeats 4000000 in
theorem cC_B_refuse (l : Launch) (D : va_G) (ad : Nat → Nat) (cA : Nat → ClassId) (kk : Nat → Nat) (A : Nat → Prop) (aM aC aE : Nat → Nat) (X : va_W) {σ : SC} {a1 : Int32} {a2 : Int32} {o : Int32 × SC} (hF : fC_B_refuse σ a1 a2 = some o) : Mi l yX10_refuse cX10_refuse 3 .int { frames := 4, cells := 0, slots := 0, locals := 85 } [.ref (ad 0), .int a1, .int a2] (CP D ad cA kk A aM aC aE X σ) o.1 (CP D ad cA kk A aM aC aE X (o.2)) A := by
  refine Mi.of (own := RX10) rfl (by decide +kernel) (Nat.le_of_ble_eq_true rfl) ?_
  intro p e s m args below meth c ls S hr hlk hP hl
  have hW := CW.start hP
  have hl : lv_has ls 3 [(0, .ref (ad 0)), (1, .int a1), (2, .int a2)] := hl
  rw [fC_B_refuse] at hF
  refine lv_aload_n S.1 S.2.1 dX10_refuse_0 rfl (lv_at hl 0 rfl) ?_
  refine xg_X10_37 S hW dX10_refuse_1 ?_
  refine lv_aload_n S.1 S.2.1 dX10_refuse_4 rfl (lv_at hl 0 rfl) ?_
  refine xg_X10_37 S hW dX10_refuse_5 ?_
  refine lv_iload_n S.1 S.2.1 dX10_refuse_8 rfl (lv_at hl 1 rfl) ?_
  obtain ⟨u1, hu1, hF⟩ := bd_of hF
  refine xc_o (k := 1) (As := [.int a1]) (rest := [.ref (ad 8)]) (cC_Cl_findMember l D ad cA kk A aM aC aE X hu1) (xr_RX2 hW) S hW (gd_V m_574 m_575 m_576 m_27 m_577) (by decide +kernel) ⟨Nat.le_of_ble_eq_true rfl, Nat.le_of_ble_eq_true rfl⟩ rfl hl.1 rfl (Nat.le_of_ble_eq_true rfl) ⟨Nat.le_of_ble_eq_true rfl, Nat.le_of_ble_eq_true rfl⟩ dX10_refuse_9 (fun H locs hW => ?_)
  rcases on_of hF with ⟨he, hF⟩ | ⟨iu1, he, hF⟩
  · refine W.eq (g2 := F0 m 12 ls (.null :: [.ref (ad 8)])) (by rw [he]; rfl) ?_
    refine lv_iload_n S.1 S.2.1 dX10_refuse_12 rfl (lv_at hl 2 rfl) ?_
    obtain ⟨u2, hu2, hF⟩ := bd_of hF
    refine xc_i (k := 2) (As := [.null, .int a2]) (rest := []) (cC_Cl_takeRefusal l D ad cA kk A aM aC aE X hu2) (xr_RX2 hW) S hW (gd_V m_693 m_694 m_695 m_27 m_696) (by decide +kernel) ⟨Nat.le_of_ble_eq_true rfl, Nat.le_of_ble_eq_true rfl⟩ rfl hl.1 rfl (Nat.le_of_ble_eq_true rfl) ⟨Nat.le_of_ble_eq_true rfl, Nat.le_of_ble_eq_true rfl⟩ dX10_refuse_13 (fun H locs hW => ?_)
    obtain rfl := Option.some.inj hF
    exact xr_i S hr hlk hW rfl rfl dX10_refuse_16
  · refine W.eq (g2 := F0 m 12 ls (.ref (aM iu1) :: [.ref (ad 8)])) (by rw [he]; rfl) ?_
    refine lv_iload_n S.1 S.2.1 dX10_refuse_12 rfl (lv_at hl 2 rfl) ?_
    obtain ⟨u3, hu3, hF⟩ := bd_of hF
    refine xc_i (k := 2) (As := [.ref (aM iu1), .int a2]) (rest := []) (cC_Cl_takeRefusal l D ad cA kk A aM aC aE X hu3) (xr_RX2 hW) S hW (gd_V m_693 m_694 m_695 m_27 m_696) (by decide +kernel) ⟨Nat.le_of_ble_eq_true rfl, Nat.le_of_ble_eq_true rfl⟩ rfl hl.1 rfl (Nat.le_of_ble_eq_true rfl) ⟨Nat.le_of_ble_eq_true rfl, Nat.le_of_ble_eq_true rfl⟩ dX10_refuse_13 (fun H locs hW => ?_)
    obtain rfl := Option.some.inj hF
    exact xr_i S hr hlk hW rfl rfl dX10_refuse_16
def fC_B_ways (σ : SC) (a1 : Int32) (a2 : Int32) (a3 : Int32) : Option (Int64 × SC) :=
  Option.bind (fC_Ch_isGroup a1 a2) (fun u1 =>
  if u1 = 0 then
  some ((-1 : Int64), σ)
  else
  Option.bind (fC_isWithin a3 ((0 : Int32)) a1) (fun u2 =>
  if u2 = 0 then
  some ((-1 : Int64), σ)
  else
  Option.bind (fC_Ch_countWays σ a1 a2) (fun u3 =>
  Option.bind (fC_Ch_waysOf u3 a3) (fun u4 =>
  some (u4, u3)))))
set_option maxRecDepth 100000 in
set_option maxHeartbeats 4000000 in
theorem cC_B_ways (l : Launch) (D : va_G) (ad : Nat → Nat) (cA : Nat → ClassId) (kk : Nat → Nat) (A : Nat → Prop) (aM aC aE : Nat → Nat) (X : va_W) {σ : SC} {a1 : Int32} {a2 : Int32} {a3 : Int32} {o : Int64 × SC} (hF : fC_B_ways σ a1 a2 a3 = some o) : Ml l yX10_ways cX10_ways 4 { frames := 2, cells := 0, slots := 0, locals := 47 } [.ref (ad 0), .int a1, .int a2, .int a3] (CP D ad cA kk A aM aC aE X σ) o.1 (CP D ad cA kk A aM aC aE X (o.2)) A := by
  refine Ml.of (own := RX10) rfl (by decide +kernel) (Nat.le_of_ble_eq_true rfl) ?_
  intro p e s m args below meth c ls S hr hlk hP hl
  have hW := CW.start hP
  have hl : lv_has ls 4 [(0, .ref (ad 0)), (1, .int a1), (2, .int a2), (3, .int a3)] := hl
  rw [fC_B_ways] at hF
  refine lv_iload_n S.1 S.2.1 dX10_ways_0 rfl (lv_at hl 1 rfl) ?_
  refine lv_iload_n S.1 S.2.1 dX10_ways_1 rfl (lv_at hl 2 rfl) ?_
  obtain ⟨u1, hu1, hF⟩ := bd_of hF
  refine kc_s (k := 2) (As := [.int a1, .int a2]) (rest := []) (cC_Ch_isGroup l hu1) (fun U hU hw => (hW.2.1.2.2.1).warm hw) (fun _ _ _ _ h => h.same) S (gd_S m_889 m_890 m_31 m_891) rfl rfl (by decide +kernel) ⟨Nat.le_of_ble_eq_true rfl, Nat.le_of_ble_eq_true rfl⟩ rfl hl.1 rfl (Nat.le_of_ble_eq_true rfl) ⟨Nat.le_of_ble_eq_true rfl, Nat.le_of_ble_eq_true rfl⟩ dX10_ways_2 ?_
  refine lv_if_eq (tgt := 17) S.1 S.2.1 dX10_ways_5 (by decide) (fun hc => ?_) (fun hc => ?_)
  · have hF := it_pos hc hF
    refine lv_ldc2 (v := (-1 : Int64)) S.1 S.2.1 S.2.2.2.1 (S.2.2.2.2 _ m_888) dX10_ways_17 ?_
    obtain rfl := Option.some.inj hF
    exact xr_l S hr hlk hW rfl dX10_ways_20
  · have hF := it_neg hc hF
    refine lv_iload_n S.1 S.2.1 dX10_ways_8 rfl (lv_at hl 3 rfl) ?_
    refine lv_iconst (v := (0 : Int32)) S.1 S.2.1 dX10_ways_9 (by decide) ?_
    refine lv_iload_n S.1 S.2.1 dX10_ways_10 rfl (lv_at hl 1 rfl) ?_
    obtain ⟨u2, hu2, hF⟩ := bd_of hF
    refine sc_i (k := 3) (As := [.int a3, .int ((0 : Int32)), .int a1]) (rest := []) (cC_isWithin l hu2) S (gd_S m_473 m_242 m_2 m_243) rfl rfl (by decide +kernel) ⟨Nat.le_of_ble_eq_true rfl, Nat.le_of_ble_eq_true rfl⟩ rfl hl.1 rfl (Nat.le_of_ble_eq_true rfl) ⟨Nat.le_of_ble_eq_true rfl, Nat.le_of_ble_eq_true rfl⟩ dX10_ways_11 ?_
    refine lv_if_ne (tgt := 21) S.1 S.2.1 dX10_ways_14 (by decide) (fun hc => ?_) (fun hc => ?_)
    · have hF := it_neg hc hF
      refine lv_aload_n S.1 S.2.1 dX10_ways_21 rfl (lv_at hl 0 rfl) ?_
      refine xg_X10_44 S hW dX10_ways_22 ?_
      refine lv_iload_n S.1 S.2.1 dX10_ways_25 rfl (lv_at hl 1 rfl) ?_
      refine lv_iload_n S.1 S.2.1 dX10_ways_26 rfl (lv_at hl 2 rfl) ?_
      obtain ⟨u3, hu3, hF⟩ := bd_of hF
      refine xc_v (k := 2) (As := [.int a1, .int a2]) (rest := []) (cC_Ch_countWays l D ad cA kk A aM aC aE X hu3) (xr_RX0 hW) S hW (gd_V m_892 m_893 m_894 m_31 m_895) (by decide +kernel) ⟨Nat.le_of_ble_eq_true rfl, Nat.le_of_ble_eq_true rfl⟩ rfl hl.1 rfl (Nat.le_of_ble_eq_true rfl) ⟨Nat.le_of_ble_eq_true rfl, Nat.le_of_ble_eq_true rfl⟩ dX10_ways_27 (fun H locs hW => ?_)
      refine lv_aload_n S.1 S.2.1 dX10_ways_30 rfl (lv_at hl 0 rfl) ?_
      refine xg_X10_44 S hW dX10_ways_31 ?_
      refine lv_iload_n S.1 S.2.1 dX10_ways_34 rfl (lv_at hl 3 rfl) ?_
      obtain ⟨u4, hu4, hF⟩ := bd_of hF
      refine xc_l (k := 1) (As := [.int a3]) (rest := []) (cC_Ch_waysOf l D ad cA kk A aM aC aE X hu4) (xr_RX0 hW) S hW (gd_V m_903 m_904 m_905 m_31 m_906) (by decide +kernel) ⟨Nat.le_of_ble_eq_true rfl, Nat.le_of_ble_eq_true rfl⟩ rfl hl.1 rfl (Nat.le_of_ble_eq_true rfl) ⟨Nat.le_of_ble_eq_true rfl, Nat.le_of_ble_eq_true rfl⟩ dX10_ways_35 (fun H locs hW => ?_)
      obtain rfl := Option.some.inj hF
      exact xr_l S hr hlk hW rfl dX10_ways_38
    · have hF := it_pos hc hF
      refine lv_ldc2 (v := (-1 : Int64)) S.1 S.2.1 S.2.2.2.1 (S.2.2.2.2 _ m_888) dX10_ways_17 ?_
      obtain rfl := Option.some.inj hF
      exact xr_l S hr hlk hW rfl dX10_ways_20
def fC_B_print (σ : SC) (a1 : Int32) (a2 : Int32) (a3 : Int32) (a4 : Int32) : Option (Int32 × SC) :=
  Option.bind (fC_Ch_isGroup a1 a2) (fun u1 =>
  if u1 = 0 then
  some ((-1 : Int32), σ)
  else
  Option.bind (fC_Ch_isRate a3) (fun u2 =>
  if u2 = 0 then
  some ((-1 : Int32), σ)
  else
  Option.bind (fC_Ch_isRate a4) (fun u3 =>
  if u3 = 0 then
  some ((-1 : Int32), σ)
  else
  Option.bind (fC_Ch_countWays σ a1 a2) (fun u4 =>
  Option.bind (fC_Ch_cheapestPrint u4 a1 a3 a4) (fun u5 =>
  some (u5, u4))))))
set_option maxRecDepth 100000 in
set_option maxHeartbeats 4000000 in
theorem cC_B_print (l : Launch) (D : va_G) (ad : Nat → Nat) (cA : Nat → ClassId) (kk : Nat → Nat) (A : Nat → Prop) (aM aC aE : Nat → Nat) (X : va_W) {σ : SC} {a1 : Int32} {a2 : Int32} {a3 : Int32} {a4 : Int32} {o : Int32 × SC} (hF : fC_B_print σ a1 a2 a3 a4 = some o) : Mi l yX10_print cX10_print 5 .int { frames := 2, cells := 0, slots := 0, locals := 57 } [.ref (ad 0), .int a1, .int a2, .int a3, .int a4] (CP D ad cA kk A aM aC aE X σ) o.1 (CP D ad cA kk A aM aC aE X (o.2)) A := by
  refine Mi.of (own := RX10) rfl (by decide +kernel) (Nat.le_of_ble_eq_true rfl) ?_
  intro p e s m args below meth c ls S hr hlk hP hl
  have hW := CW.start hP
  have hl : lv_has ls 5 [(0, .ref (ad 0)), (1, .int a1), (2, .int a2), (3, .int a3), (4, .int a4)] := hl
  rw [fC_B_print] at hF
  refine lv_iload_n S.1 S.2.1 dX10_print_0 rfl (lv_at hl 1 rfl) ?_
  refine lv_iload_n S.1 S.2.1 dX10_print_1 rfl (lv_at hl 2 rfl) ?_
  obtain ⟨u1, hu1, hF⟩ := bd_of hF
  refine kc_s (k := 2) (As := [.int a1, .int a2]) (rest := []) (cC_Ch_isGroup l hu1) (fun U hU hw => (hW.2.1.2.2.1).warm hw) (fun _ _ _ _ h => h.same) S (gd_S m_889 m_890 m_31 m_891) rfl rfl (by decide +kernel) ⟨Nat.le_of_ble_eq_true rfl, Nat.le_of_ble_eq_true rfl⟩ rfl hl.1 rfl (Nat.le_of_ble_eq_true rfl) ⟨Nat.le_of_ble_eq_true rfl, Nat.le_of_ble_eq_true rfl⟩ dX10_print_2 ?_
  refine lv_if_eq (tgt := 23) S.1 S.2.1 dX10_print_5 (by decide) (fun hc => ?_) (fun hc => ?_)
  · have hF := it_pos hc hF
    refine lv_iconst (v := (-1 : Int32)) S.1 S.2.1 dX10_print_23 (by decide) ?_
    obtain rfl := Option.some.inj hF
    exact xr_i S hr hlk hW rfl rfl dX10_print_24
  · have hF := it_neg hc hF
    refine lv_iload_n S.1 S.2.1 dX10_print_8 rfl (lv_at hl 3 rfl) ?_
    obtain ⟨u2, hu2, hF⟩ := bd_of hF
    refine kc_s (k := 1) (As := [.int a3]) (rest := []) (cC_Ch_isRate l hu2) (fun U hU hw => (hW.2.1.2.2.1).warm hw) (fun _ _ _ _ h => h.same) S (gd_S m_929 m_930 m_31 m_931) rfl rfl (by decide +kernel) ⟨Nat.le_of_ble_eq_true rfl, Nat.le_of_ble_eq_true rfl⟩ rfl hl.1 rfl (Nat.le_of_ble_eq_true rfl) ⟨Nat.le_of_ble_eq_true rfl, Nat.le_of_ble_eq_true rfl⟩ dX10_print_9 ?_
    refine lv_if_eq (tgt := 23) S.1 S.2.1 dX10_print_12 (by decide) (fun hc => ?_) (fun hc => ?_)
    · have hF := it_pos hc hF
      refine lv_iconst (v := (-1 : Int32)) S.1 S.2.1 dX10_print_23 (by decide) ?_
      obtain rfl := Option.some.inj hF
      exact xr_i S hr hlk hW rfl rfl dX10_print_24
    · have hF := it_neg hc hF
      refine lv_iload S.1 S.2.1 dX10_print_15 (lv_at hl 4 rfl) ?_
      obtain ⟨u3, hu3, hF⟩ := bd_of hF
      refine kc_s (k := 1) (As := [.int a4]) (rest := []) (cC_Ch_isRate l hu3) (fun U hU hw => (hW.2.1.2.2.1).warm hw) (fun _ _ _ _ h => h.same) S (gd_S m_929 m_930 m_31 m_931) rfl rfl (by decide +kernel) ⟨Nat.le_of_ble_eq_true rfl, Nat.le_of_ble_eq_true rfl⟩ rfl hl.1 rfl (Nat.le_of_ble_eq_true rfl) ⟨Nat.le_of_ble_eq_true rfl, Nat.le_of_ble_eq_true rfl⟩ dX10_print_17 ?_
      refine lv_if_ne (tgt := 25) S.1 S.2.1 dX10_print_20 (by decide) (fun hc => ?_) (fun hc => ?_)
      · have hF := it_neg hc hF
        refine lv_aload_n S.1 S.2.1 dX10_print_25 rfl (lv_at hl 0 rfl) ?_
        refine xg_X10_44 S hW dX10_print_26 ?_
        refine lv_iload_n S.1 S.2.1 dX10_print_29 rfl (lv_at hl 1 rfl) ?_
        refine lv_iload_n S.1 S.2.1 dX10_print_30 rfl (lv_at hl 2 rfl) ?_
        obtain ⟨u4, hu4, hF⟩ := bd_of hF
        refine xc_v (k := 2) (As := [.int a1, .int a2]) (rest := []) (cC_Ch_countWays l D ad cA kk A aM aC aE X hu4) (xr_RX0 hW) S hW (gd_V m_892 m_893 m_894 m_31 m_895) (by decide +kernel) ⟨Nat.le_of_ble_eq_true rfl, Nat.le_of_ble_eq_true rfl⟩ rfl hl.1 rfl (Nat.le_of_ble_eq_true rfl) ⟨Nat.le_of_ble_eq_true rfl, Nat.le_of_ble_eq_true rfl⟩ dX10_print_31 (fun H locs hW => ?_)
        refine lv_aload_n S.1 S.2.1 dX10_print_34 rfl (lv_at hl 0 rfl) ?_
        refine xg_X10_44 S hW dX10_print_35 ?_
        refine lv_iload_n S.1 S.2.1 dX10_print_38 rfl (lv_at hl 1 rfl) ?_
        refine lv_iload_n S.1 S.2.1 dX10_print_39 rfl (lv_at hl 3 rfl) ?_
        refine lv_iload S.1 S.2.1 dX10_print_40 (lv_at hl 4 rfl) ?_
        obtain ⟨u5, hu5, hF⟩ := bd_of hF
        refine xc_i (k := 3) (As := [.int a1, .int a3, .int a4]) (rest := []) (cC_Ch_cheapestPrint l D ad cA kk A aM aC aE X hu5) (xr_RX0 hW) S hW (gd_V m_932 m_933 m_934 m_31 m_935) (by decide +kernel) ⟨Nat.le_of_ble_eq_true rfl, Nat.le_of_ble_eq_true rfl⟩ rfl hl.1 rfl (Nat.le_of_ble_eq_true rfl) ⟨Nat.le_of_ble_eq_true rfl, Nat.le_of_ble_eq_true rfl⟩ dX10_print_42 (fun H locs hW => ?_)
        obtain rfl := Option.some.inj hF
        exact xr_i S hr hlk hW rfl rfl dX10_print_45
      · have hF := it_pos hc hF
        refine lv_iconst (v := (-1 : Int32)) S.1 S.2.1 dX10_print_23 (by decide) ?_
        obtain rfl := Option.some.inj hF
        exact xr_i S hr hlk hW rfl rfl dX10_print_24
def fC_B_middle (σ : SC) (a1 : Int32) : Option (Int32 × SC) :=
  Option.bind (fC_Ju_middleOf σ a1) (fun u1 =>
  some (u1.1, u1.2))
set_option maxRecDepth 100000 in
set_option maxHeartbeats 4000000 in
theorem cC_B_middle (l : Launch) (D : va_G) (ad : Nat → Nat) (cA : Nat → ClassId) (kk : Nat → Nat) (A : Nat → Prop) (aM aC aE : Nat → Nat) (X : va_W) {σ : SC} {a1 : Int32} {o : Int32 × SC} (hF : fC_B_middle σ a1 = some o) : Mi l yX10_middle cX10_middle 2 .int { frames := 3, cells := 0, slots := 0, locals := 72 } [.ref (ad 0), .int a1] (CP D ad cA kk A aM aC aE X σ) o.1 (CP D ad cA kk A aM aC aE X (o.2)) A := by
  refine Mi.of (own := RX10) rfl (by decide +kernel) (Nat.le_of_ble_eq_true rfl) ?_
  intro p e s m args below meth c ls S hr hlk hP hl
  have hW := CW.start hP
  have hl : lv_has ls 2 [(0, .ref (ad 0)), (1, .int a1)] := hl
  rw [fC_B_middle] at hF
  refine lv_aload_n S.1 S.2.1 dX10_middle_0 rfl (lv_at hl 0 rfl) ?_
  refine xg_X10_51 S hW dX10_middle_1 ?_
  refine lv_iload_n S.1 S.2.1 dX10_middle_4 rfl (lv_at hl 1 rfl) ?_
  obtain ⟨u1, hu1, hF⟩ := bd_of hF
  refine xc_i (k := 1) (As := [.int a1]) (rest := []) (cC_Ju_middleOf l D ad cA kk A aM aC aE X hu1) (xr_RX4 hW) S hW (gd_V m_984 m_985 m_986 m_35 m_987) (by decide +kernel) ⟨Nat.le_of_ble_eq_true rfl, Nat.le_of_ble_eq_true rfl⟩ rfl hl.1 rfl (Nat.le_of_ble_eq_true rfl) ⟨Nat.le_of_ble_eq_true rfl, Nat.le_of_ble_eq_true rfl⟩ dX10_middle_5 (fun H locs hW => ?_)
  obtain rfl := Option.some.inj hF
  exact xr_i S hr hlk hW rfl rfl dX10_middle_8
def fC_B_winner (σ : SC) : Option (Int32 × SC) :=
  Option.bind (fC_Ju_bestBook σ) (fun u1 =>
  some (u1.1, u1.2))
set_option maxRecDepth 100000 in
set_option maxHeartbeats 4000000 in
theorem cC_B_winner (l : Launch) (D : va_G) (ad : Nat → Nat) (cA : Nat → ClassId) (kk : Nat → Nat) (A : Nat → Prop) (aM aC aE : Nat → Nat) (X : va_W) {σ : SC} {o : Int32 × SC} (hF : fC_B_winner σ = some o) : Mi l yX10_winner cX10_winner 1 .int { frames := 4, cells := 0, slots := 0, locals := 98 } [.ref (ad 0)] (CP D ad cA kk A aM aC aE X σ) o.1 (CP D ad cA kk A aM aC aE X (o.2)) A := by
  refine Mi.of (own := RX10) rfl (by decide +kernel) (Nat.le_of_ble_eq_true rfl) ?_
  intro p e s m args below meth c ls S hr hlk hP hl
  have hW := CW.start hP
  have hl : lv_has ls 1 [(0, .ref (ad 0))] := hl
  rw [fC_B_winner] at hF
  refine lv_aload_n S.1 S.2.1 dX10_winner_0 rfl (lv_at hl 0 rfl) ?_
  refine xg_X10_51 S hW dX10_winner_1 ?_
  obtain ⟨u1, hu1, hF⟩ := bd_of hF
  refine xc_i (k := 0) (As := []) (rest := []) (cC_Ju_bestBook l D ad cA kk A aM aC aE X hu1) (xr_RX4 hW) S hW (gd_V m_1008 m_1009 m_1010 m_35 m_1011) (by decide +kernel) ⟨Nat.le_of_ble_eq_true rfl, Nat.le_of_ble_eq_true rfl⟩ rfl hl.1 rfl (Nat.le_of_ble_eq_true rfl) ⟨Nat.le_of_ble_eq_true rfl, Nat.le_of_ble_eq_true rfl⟩ dX10_winner_4 (fun H locs hW => ?_)
  obtain rfl := Option.some.inj hF
  exact xr_i S hr hlk hW rfl rfl dX10_winner_7
def fC_Tr_readStatement (σ : SC) : Option (Int32 × SC) :=
  Option.bind (fC_Tr_readName σ) (fun u1 =>
  if u1.1 = (-1 : Int32) then
  some ((0 : Int32), u1.2)
  else
  Option.bind (fC_Tr_readEquals u1.2) (fun u2 =>
  if u2.1 = 0 then
  some ((0 : Int32), u2.2)
  else
  Option.bind (fC_Tr_readNumber u2.2 ((10000 : Int32))) (fun u3 =>
  if u3.1 = (-1 : Int32) then
  some ((0 : Int32), u3.2)
  else
  Option.bind (fC_Tr_readMonth u3.2) (fun u4 =>
  if u4.1 = (-1 : Int32) then
  some ((0 : Int32), u4.2)
  else
  Option.bind (fC_Rb_propose u4.2 u1.1 u3.1 u4.1) (fun u5 =>
  some ((1 : Int32), u5))))))
set_option maxRecDepth 100000 in
set_option maxHeartbeats 4000000 in
theorem cC_Tr_readStatement (l : Launch) (D : va_G) (ad : Nat → Nat) (cA : Nat → ClassId) (kk : Nat → Nat) (A : Nat → Prop) (aM aC aE : Nat → Nat) (X : va_W) {σ : SC} {o : Int32 × SC} (hF : fC_Tr_readStatement σ = some o) : Mi l yX9_readStatement cX9_readStatement 4 .boolean { frames := 7, cells := 0, slots := 0, locals := 154 } [.ref (ad 7)] (CP D ad cA kk A aM aC aE X σ) o.1 (CP D ad cA kk A aM aC aE X (o.2)) A := by
  refine Mi.of (own := RX9) rfl (by decide +kernel) (Nat.le_of_ble_eq_true rfl) ?_
  intro p e s m args below meth c ls S hr hlk hP hl
  have hW := CW.start hP
  have hl : lv_has ls 4 [(0, .ref (ad 7))] := hl
  rw [fC_Tr_readStatement] at hF
  refine lv_aload_n S.1 S.2.1 dX9_readStatement_0 rfl (lv_at hl 0 rfl) ?_
  obtain ⟨u1, hu1, hF⟩ := bd_of hF
  refine xc_i (k := 0) (As := []) (rest := []) (cC_Tr_readName l D ad cA kk A aM aC aE X hu1) (xr_RX9 hW) S hW (gd_V m_260 m_261 m_262 m_23 m_263) (by decide +kernel) ⟨Nat.le_of_ble_eq_true rfl, Nat.le_of_ble_eq_true rfl⟩ rfl hl.1 rfl (Nat.le_of_ble_eq_true rfl) ⟨Nat.le_of_ble_eq_true rfl, Nat.le_of_ble_eq_true rfl⟩ dX9_readStatement_1 (fun H locs hW => ?_)
  refine lv_istore_n (lv' := [(1, .int u1.1), (0, .ref (ad 7))]) S.1 S.2.1 dX9_readStatement_4 rfl hl (by decide) rfl (fun ls hl => ?_)
  refine lv_iload_n S.1 S.2.1 dX9_readStatement_5 rfl (lv_at hl 0 rfl) ?_
  refine lv_iconst (v := (-1 : Int32)) S.1 S.2.1 dX9_readStatement_6 (by decide) ?_
  refine lv_icmp_eq (tgt := 17) S.1 S.2.1 dX9_readStatement_7 (by decide) (fun hc => ?_) (fun hc => ?_)
  · have hF := it_pos hc hF
    refine lv_iconst (v := (0 : Int32)) S.1 S.2.1 dX9_readStatement_17 (by decide) ?_
    obtain rfl := Option.some.inj hF
    exact xr_i S hr hlk hW rfl rfl dX9_readStatement_18
  · have hF := it_neg hc hF
    refine lv_aload_n S.1 S.2.1 dX9_readStatement_10 rfl (lv_at hl 1 rfl) ?_
    obtain ⟨u2, hu2, hF⟩ := bd_of hF
    refine xc_i (k := 0) (As := []) (rest := []) (cC_Tr_readEquals l D ad cA kk A aM aC aE X hu2) (xr_RX9 hW) S hW (gd_V m_340 m_341 m_342 m_23 m_343) (by decide +kernel) ⟨Nat.le_of_ble_eq_true rfl, Nat.le_of_ble_eq_true rfl⟩ rfl hl.1 rfl (Nat.le_of_ble_eq_true rfl) ⟨Nat.le_of_ble_eq_true rfl, Nat.le_of_ble_eq_true rfl⟩ dX9_readStatement_11 (fun H locs hW => ?_)
    refine lv_if_ne (tgt := 19) S.1 S.2.1 dX9_readStatement_14 (by decide) (fun hc => ?_) (fun hc => ?_)
    · have hF := it_neg hc hF
      refine lv_aload_n S.1 S.2.1 dX9_readStatement_19 rfl (lv_at hl 1 rfl) ?_
      refine lv_sipush (v := (10000 : Int32)) S.1 S.2.1 dX9_readStatement_20 (by decide) ?_
      obtain ⟨u3, hu3, hF⟩ := bd_of hF
      refine xc_i (k := 1) (As := [.int ((10000 : Int32))]) (rest := []) (cC_Tr_readNumber l D ad cA kk A aM aC aE X hu3) (xr_RX9 hW) S hW (gd_V m_344 m_345 m_346 m_23 m_347) (by decide +kernel) ⟨Nat.le_of_ble_eq_true rfl, Nat.le_of_ble_eq_true rfl⟩ rfl hl.1 rfl (Nat.le_of_ble_eq_true rfl) ⟨Nat.le_of_ble_eq_true rfl, Nat.le_of_ble_eq_true rfl⟩ dX9_readStatement_23 (fun H locs hW => ?_)
      refine lv_istore_n (lv' := [(2, .int u3.1), (1, .int u1.1), (0, .ref (ad 7))]) S.1 S.2.1 dX9_readStatement_26 rfl hl (by decide) rfl (fun ls hl => ?_)
      refine lv_iload_n S.1 S.2.1 dX9_readStatement_27 rfl (lv_at hl 0 rfl) ?_
      refine lv_iconst (v := (-1 : Int32)) S.1 S.2.1 dX9_readStatement_28 (by decide) ?_
      refine lv_icmp_ne (tgt := 34) S.1 S.2.1 dX9_readStatement_29 (by decide) (fun hc => ?_) (fun hc => ?_)
      · have hF := it_neg hc hF
        refine lv_aload_n S.1 S.2.1 dX9_readStatement_34 rfl (lv_at hl 2 rfl) ?_
        obtain ⟨u4, hu4, hF⟩ := bd_of hF
        refine xc_i (k := 0) (As := []) (rest := []) (cC_Tr_readMonth l D ad cA kk A aM aC aE X hu4) (xr_RX9 hW) S hW (gd_V m_348 m_349 m_350 m_23 m_351) (by decide +kernel) ⟨Nat.le_of_ble_eq_true rfl, Nat.le_of_ble_eq_true rfl⟩ rfl hl.1 rfl (Nat.le_of_ble_eq_true rfl) ⟨Nat.le_of_ble_eq_true rfl, Nat.le_of_ble_eq_true rfl⟩ dX9_readStatement_35 (fun H locs hW => ?_)
        refine lv_istore_n (lv' := [(3, .int u4.1), (2, .int u3.1), (1, .int u1.1), (0, .ref (ad 7))]) S.1 S.2.1 dX9_readStatement_38 rfl hl (by decide) rfl (fun ls hl => ?_)
        refine lv_iload_n S.1 S.2.1 dX9_readStatement_39 rfl (lv_at hl 0 rfl) ?_
        refine lv_iconst (v := (-1 : Int32)) S.1 S.2.1 dX9_readStatement_40 (by decide) ?_
        refine lv_icmp_ne (tgt := 46) S.1 S.2.1 dX9_readStatement_41 (by decide) (fun hc => ?_) (fun hc => ?_)
        · have hF := it_neg hc hF
          refine lv_aload_n S.1 S.2.1 dX9_readStatement_46 rfl (lv_at hl 3 rfl) ?_
          refine xg_X9_15 S hW dX9_readStatement_47 ?_
          refine lv_iload_n S.1 S.2.1 dX9_readStatement_50 rfl (lv_at hl 2 rfl) ?_
          refine lv_iload_n S.1 S.2.1 dX9_readStatement_51 rfl (lv_at hl 1 rfl) ?_
          refine lv_iload_n S.1 S.2.1 dX9_readStatement_52 rfl (lv_at hl 0 rfl) ?_
          obtain ⟨u5, hu5, hF⟩ := bd_of hF
          refine xc_v (k := 3) (As := [.int u1.1, .int u3.1, .int u4.1]) (rest := []) (cC_Rb_propose l D ad cA kk A aM aC aE X hu5) (xr_RX7 hW) S hW (gd_V m_352 m_353 m_354 m_19 m_355) (by decide +kernel) ⟨Nat.le_of_ble_eq_true rfl, Nat.le_of_ble_eq_true rfl⟩ rfl hl.1 rfl (Nat.le_of_ble_eq_true rfl) ⟨Nat.le_of_ble_eq_true rfl, Nat.le_of_ble_eq_true rfl⟩ dX9_readStatement_53 (fun H locs hW => ?_)
          refine lv_iconst (v := (1 : Int32)) S.1 S.2.1 dX9_readStatement_56 (by decide) ?_
          obtain rfl := Option.some.inj hF
          exact xr_i S hr hlk hW rfl rfl dX9_readStatement_57
        · have hF := it_pos hc hF
          refine lv_iconst (v := (0 : Int32)) S.1 S.2.1 dX9_readStatement_44 (by decide) ?_
          obtain rfl := Option.some.inj hF
          exact xr_i S hr hlk hW rfl rfl dX9_readStatement_45
      · have hF := it_pos hc hF
        refine lv_iconst (v := (0 : Int32)) S.1 S.2.1 dX9_readStatement_32 (by decide) ?_
        obtain rfl := Option.some.inj hF
        exact xr_i S hr hlk hW rfl rfl dX9_readStatement_33
    · have hF := it_pos hc hF
      refine lv_iconst (v := (0 : Int32)) S.1 S.2.1 dX9_readStatement_17 (by decide) ?_
      obtain rfl := Option.some.inj hF
      exact xr_i S hr hlk hW rfl rfl dX9_readStatement_18
def fC_Tr_readText_L19 : Nat → Int32 → Int32 → SC → Option (SC)
  | 0, _, _, _ => none
  | n + 1, x1, x2, σ =>
    if x1 = 0 then
    some ((σ))
    else
    if (200 : Int32) < x2 then
    some ((σ))
    else
    Option.bind (fC_Tr_readStatement σ) (fun u1 =>
    Option.bind (if u1.1 = 0 then
    some ((0 : Int32), u1.2)
    else
    Option.bind (fC_Tr_readComma u1.2) (fun u3 =>
    if u3.1 = 0 then
    some ((0 : Int32), u3.2)
    else
    some ((1 : Int32), u3.2))) (fun u2 =>
    fC_Tr_readText_L19 n u2.1 ((x2 + (1 : Int32))) u2.2))
def fC_Tr_readText (σ : SC) : Option (Int32 × SC) :=
  Option.bind (fC_Tr_readText_L19 1000 ((1 : Int32)) ((0 : Int32)) (yz (yz (yz σ 3 ((0 : Int32))) 4 ((0 : Int32))) 5 ((0 : Int32)))) (fun u1 =>
  if (xz u1 4) = 0 then
  Option.bind (fC_Rb_acceptProposed u1) (fun u6 =>
  some (u6.1, u6.2))
  else
  Option.bind (fC_Rb_dropProposed u1) (fun u7 =>
  some ((-1 : Int32), u7)))
set_option maxRecDepth 100000 in
set_option maxHeartbeats 4000000 in
theorem cC_Tr_readText (l : Launch) (D : va_G) (ad : Nat → Nat) (cA : Nat → ClassId) (kk : Nat → Nat) (A : Nat → Prop) (aM aC aE : Nat → Nat) (X : va_W) {σ : SC} {o : Int32 × SC} (hF : fC_Tr_readText σ = some o) : Mi l yX9_readText cX9_readText 3 .int { frames := 8, cells := 0, slots := 0, locals := 177 } [.ref (ad 7)] (CP D ad cA kk A aM aC aE X σ) o.1 (CP D ad cA kk A aM aC aE X (o.2)) A := by
  refine Mi.of (own := RX9) rfl (by decide +kernel) (Nat.le_of_ble_eq_true rfl) ?_
  intro p e s m args below meth c ls S hr hlk hP hl
  have hW := CW.start hP
  have hl : lv_has ls 3 [(0, .ref (ad 7))] := hl
  rw [fC_Tr_readText] at hF
  refine lv_aload_n S.1 S.2.1 dX9_readText_0 rfl (lv_at hl 0 rfl) ?_
  refine lv_iconst (v := (0 : Int32)) S.1 S.2.1 dX9_readText_1 (by decide) ?_
  refine xp_X9_19 S hW dX9_readText_2 (fun H locs hW => ?_)
  refine lv_aload_n S.1 S.2.1 dX9_readText_5 rfl (lv_at hl 0 rfl) ?_
  refine lv_iconst (v := (0 : Int32)) S.1 S.2.1 dX9_readText_6 (by decide) ?_
  refine xp_X9_23 S hW dX9_readText_7 (fun H locs hW => ?_)
  refine lv_aload_n S.1 S.2.1 dX9_readText_10 rfl (lv_at hl 0 rfl) ?_
  refine lv_iconst (v := (0 : Int32)) S.1 S.2.1 dX9_readText_11 (by decide) ?_
  refine xp_X9_26 S hW dX9_readText_12 (fun H locs hW => ?_)
  refine lv_iconst (v := (1 : Int32)) S.1 S.2.1 dX9_readText_15 (by decide) ?_
  refine lv_istore_n (lv' := [(1, .int ((1 : Int32))), (0, .ref (ad 7))]) S.1 S.2.1 dX9_readText_16 rfl hl (by decide) rfl (fun ls hl => ?_)
  refine lv_iconst (v := (0 : Int32)) S.1 S.2.1 dX9_readText_17 (by decide) ?_
  refine lv_istore_n (lv' := [(2, .int ((0 : Int32))), (1, .int ((1 : Int32))), (0, .ref (ad 7))]) S.1 S.2.1 dX9_readText_18 rfl hl (by decide) rfl (fun ls hl => ?_)
  obtain ⟨u1, hX, hF⟩ := bd_of hF
  refine jn1 (fun H locs ls => lv_has ls 3 [(0, .ref (ad 7))] ∧ CW D ad cA kk A aM aC aE X u1 s H locs) 56 [] (fun H locs ls hJ => ?_) (fun Ju1 => ?_)
  · obtain ⟨hl, hW⟩ := hJ
    refine lv_aload_n S.1 S.2.1 dX9_readText_56 rfl (lv_at hl 0 rfl) ?_
    refine xg_X9_23 S hW dX9_readText_57 ?_
    refine lv_if_eq (tgt := 72) S.1 S.2.1 dX9_readText_60 (by decide) (fun hc => ?_) (fun hc => ?_)
    · have hF := it_pos hc hF
      refine lv_aload_n S.1 S.2.1 dX9_readText_72 rfl (lv_at hl 0 rfl) ?_
      refine xg_X9_15 S hW dX9_readText_73 ?_
      obtain ⟨u6, hu6, hF⟩ := bd_of hF
      refine xc_i (k := 0) (As := []) (rest := []) (cC_Rb_acceptProposed l D ad cA kk A aM aC aE X hu6) (xr_RX7 hW) S hW (gd_V m_365 m_366 m_367 m_19 m_368) (by decide +kernel) ⟨Nat.le_of_ble_eq_true rfl, Nat.le_of_ble_eq_true rfl⟩ rfl hl.1 rfl (Nat.le_of_ble_eq_true rfl) ⟨Nat.le_of_ble_eq_true rfl, Nat.le_of_ble_eq_true rfl⟩ dX9_readText_76 (fun H locs hW => ?_)
      obtain rfl := Option.some.inj hF
      exact xr_i S hr hlk hW rfl rfl dX9_readText_79
    · have hF := it_neg hc hF
      refine lv_aload_n S.1 S.2.1 dX9_readText_63 rfl (lv_at hl 0 rfl) ?_
      refine xg_X9_15 S hW dX9_readText_64 ?_
      obtain ⟨u7, hu7, hF⟩ := bd_of hF
      refine xc_v (k := 0) (As := []) (rest := []) (cC_Rb_dropProposed l D ad cA kk A aM aC aE X hu7) (xr_RX7 hW) S hW (gd_V m_361 m_362 m_363 m_19 m_364) (by decide +kernel) ⟨Nat.le_of_ble_eq_true rfl, Nat.le_of_ble_eq_true rfl⟩ rfl hl.1 rfl (Nat.le_of_ble_eq_true rfl) ⟨Nat.le_of_ble_eq_true rfl, Nat.le_of_ble_eq_true rfl⟩ dX9_readText_67 (fun H locs hW => ?_)
      refine lv_iconst (v := (-1 : Int32)) S.1 S.2.1 dX9_readText_70 (by decide) ?_
      obtain rfl := Option.some.inj hF
      exact xr_i S hr hlk hW rfl rfl dX9_readText_71
  · refine lpW (fun (xu1 : Int32 × Int32 × SC) H locs ls => lv_has ls 3 [(0, .ref (ad 7)), (1, .int xu1.1), (2, .int xu1.2.1)] ∧ CW D ad cA kk A aM aC aE X xu1.2.2 s H locs) 19 (fun n xu1 => fC_Tr_readText_L19 n xu1.1 xu1.2.1 xu1.2.2) u1 (fun _ => rfl) (fun n xu1 ihu1 hF H locs ls hJ => ?_) 1000 ((1 : Int32), (0 : Int32), yz (yz (yz σ 3 ((0 : Int32))) 4 ((0 : Int32))) 5 ((0 : Int32))) hX _ _ _ ⟨lv_sub hl [2, 1, 0] rfl, hW⟩
    obtain ⟨hl, hW⟩ := hJ
    have hF : fC_Tr_readText_L19 (n + 1) xu1.1 xu1.2.1 xu1.2.2 = some u1 := hF
    rw [fC_Tr_readText_L19] at hF
    refine lv_iload_n S.1 S.2.1 dX9_readText_19 rfl (lv_at hl 1 rfl) ?_
    refine lv_if_eq (tgt := 56) S.1 S.2.1 dX9_readText_20 (by decide) (fun hc => ?_) (fun hc => ?_)
    · have hF := it_pos hc hF
      obtain rfl := Option.some.inj hF
      exact Ju1 _ _ _ ⟨lv_sub hl [0] rfl, hW⟩
    · have hF := it_neg hc hF
      refine lv_iload_n S.1 S.2.1 dX9_readText_23 rfl (lv_at hl 2 rfl) ?_
      refine lv_sipush (v := (200 : Int32)) S.1 S.2.1 dX9_readText_24 (by decide) ?_
      refine lv_icmp_gt (tgt := 56) S.1 S.2.1 dX9_readText_27 (by decide) (fun hc => ?_) (fun hc => ?_)
      · have hF := it_pos hc hF
        obtain rfl := Option.some.inj hF
        exact Ju1 _ _ _ ⟨lv_sub hl [0] rfl, hW⟩
      · have hF := it_neg hc hF
        refine lv_aload_n S.1 S.2.1 dX9_readText_30 rfl (lv_at hl 0 rfl) ?_
        obtain ⟨u3, hu3, hF⟩ := bd_of hF
        refine xc_i (k := 0) (As := []) (rest := []) (cC_Tr_readStatement l D ad cA kk A aM aC aE X hu3) (xr_RX9 hW) S hW (gd_V m_256 m_257 m_258 m_23 m_259) (by decide +kernel) ⟨Nat.le_of_ble_eq_true rfl, Nat.le_of_ble_eq_true rfl⟩ rfl hl.1 rfl (Nat.le_of_ble_eq_true rfl) ⟨Nat.le_of_ble_eq_true rfl, Nat.le_of_ble_eq_true rfl⟩ dX9_readText_31 (fun H locs hW => ?_)
        obtain ⟨u4, hX, hF⟩ := bd_of hF
        refine jn1 (fun H locs ls => lv_has ls 3 [(0, .ref (ad 7)), (2, .int xu1.2.1)] ∧ CW D ad cA kk A aM aC aE X u4.2 s H locs) 49 [.int u4.1] (fun H locs ls hJ => ?_) (fun Ju4 => ?_)
        · obtain ⟨hl, hW⟩ := hJ
          refine lv_istore_n (lv' := [(1, .int u4.1), (0, .ref (ad 7)), (2, .int xu1.2.1)]) S.1 S.2.1 dX9_readText_49 rfl hl (by decide) rfl (fun ls hl => ?_)
          refine lv_iinc (v := (xu1.2.1 + (1 : Int32))) (lv' := [(2, .int ((xu1.2.1 + (1 : Int32)))), (1, .int u4.1), (0, .ref (ad 7))]) S.1 S.2.1 dX9_readText_50 hl (k := 2) rfl rfl (by decide) rfl (fun ls hl => ?_)
          refine lv_goto (tgt := 19) S.1 S.2.1 dX9_readText_53 (by decide) ?_
          exact ihu1 (u4.1, (xu1.2.1 + (1 : Int32)), u4.2) hF _ _ _ ⟨lv_sub hl [2, 1, 0] rfl, hW⟩
        · have hF := hX
          refine lv_if_eq (tgt := 48) S.1 S.2.1 dX9_readText_34 (by decide) (fun hc => ?_) (fun hc => ?_)
          · have hF := it_pos hc hF
            refine lv_iconst (v := (0 : Int32)) S.1 S.2.1 dX9_readText_48 (by decide) ?_
            obtain rfl := Option.some.inj hF
            exact Ju4 _ _ _ ⟨lv_sub hl [0, 2] rfl, hW⟩
          · have hF := it_neg hc hF
            refine lv_aload_n S.1 S.2.1 dX9_readText_37 rfl (lv_at hl 0 rfl) ?_
            obtain ⟨u5, hu5, hF⟩ := bd_of hF
            refine xc_i (k := 0) (As := []) (rest := []) (cC_Tr_readComma l D ad cA kk A aM aC aE X hu5) (xr_RX9 hW) S hW (gd_V m_357 m_358 m_359 m_23 m_360) (by decide +kernel) ⟨Nat.le_of_ble_eq_true rfl, Nat.le_of_ble_eq_true rfl⟩ rfl hl.1 rfl (Nat.le_of_ble_eq_true rfl) ⟨Nat.le_of_ble_eq_true rfl, Nat.le_of_ble_eq_true rfl⟩ dX9_readText_38 (fun H locs hW => ?_)
            refine lv_if_eq (tgt := 48) S.1 S.2.1 dX9_readText_41 (by decide) (fun hc => ?_) (fun hc => ?_)
            · have hF := it_pos hc hF
              refine lv_iconst (v := (0 : Int32)) S.1 S.2.1 dX9_readText_48 (by decide) ?_
              obtain rfl := Option.some.inj hF
              exact Ju4 _ _ _ ⟨lv_sub hl [0, 2] rfl, hW⟩
            · have hF := it_neg hc hF
              refine lv_iconst (v := (1 : Int32)) S.1 S.2.1 dX9_readText_44 (by decide) ?_
              refine lv_goto (tgt := 49) S.1 S.2.1 dX9_readText_45 (by decide) ?_
              obtain rfl := Option.some.inj hF
              exact Ju4 _ _ _ ⟨lv_sub hl [0, 2] rfl, hW⟩
def fC_B_rules (σ : SC) : Option (Int32 × SC) :=
  Option.bind (fC_Tr_readText σ) (fun u1 =>
  Option.bind (fC_Ta_cutTo u1.2 ((0 : Int32))) (fun u2 =>
  some (u1.1, u2.2)))
set_option maxRecDepth 100000 in
set_option maxHeartbeats 4000000 in
theorem cC_B_rules (l : Launch) (D : va_G) (ad : Nat → Nat) (cA : Nat → ClassId) (kk : Nat → Nat) (A : Nat → Prop) (aM aC aE : Nat → Nat) (X : va_W) {σ : SC} {o : Int32 × SC} (hF : fC_B_rules σ = some o) : Mi l yX10_rules cX10_rules 2 .int { frames := 9, cells := 0, slots := 0, locals := 199 } [.ref (ad 0)] (CP D ad cA kk A aM aC aE X σ) o.1 (CP D ad cA kk A aM aC aE X (o.2)) A := by
  refine Mi.of (own := RX10) rfl (by decide +kernel) (Nat.le_of_ble_eq_true rfl) ?_
  intro p e s m args below meth c ls S hr hlk hP hl
  have hW := CW.start hP
  have hl : lv_has ls 2 [(0, .ref (ad 0))] := hl
  rw [fC_B_rules] at hF
  refine lv_aload_n S.1 S.2.1 dX10_rules_0 rfl (lv_at hl 0 rfl) ?_
  refine xg_X10_28 S hW dX10_rules_1 ?_
  obtain ⟨u1, hu1, hF⟩ := bd_of hF
  refine xc_i (k := 0) (As := []) (rest := []) (cC_Tr_readText l D ad cA kk A aM aC aE X hu1) (xr_RX9 hW) S hW (gd_V m_252 m_253 m_254 m_23 m_255) (by decide +kernel) ⟨Nat.le_of_ble_eq_true rfl, Nat.le_of_ble_eq_true rfl⟩ rfl hl.1 rfl (Nat.le_of_ble_eq_true rfl) ⟨Nat.le_of_ble_eq_true rfl, Nat.le_of_ble_eq_true rfl⟩ dX10_rules_4 (fun H locs hW => ?_)
  refine lv_istore_n (lv' := [(1, .int u1.1), (0, .ref (ad 0))]) S.1 S.2.1 dX10_rules_7 rfl hl (by decide) rfl (fun ls hl => ?_)
  refine lv_aload_n S.1 S.2.1 dX10_rules_8 rfl (lv_at hl 1 rfl) ?_
  refine xg_X10_10 S hW dX10_rules_9 ?_
  refine lv_iconst (v := (0 : Int32)) S.1 S.2.1 dX10_rules_12 (by decide) ?_
  obtain ⟨u2, hu2, hF⟩ := bd_of hF
  refine xc_i (k := 1) (As := [.int ((0 : Int32))]) (rest := []) (cC_Ta_cutTo l D ad cA kk A aM aC aE X hu2) (xr_RX8 hW) S hW (gd_V m_238 m_239 m_240 m_15 m_241) (by decide +kernel) ⟨Nat.le_of_ble_eq_true rfl, Nat.le_of_ble_eq_true rfl⟩ rfl hl.1 rfl (Nat.le_of_ble_eq_true rfl) ⟨Nat.le_of_ble_eq_true rfl, Nat.le_of_ble_eq_true rfl⟩ dX10_rules_13 (fun H locs hW => ?_)
  refine lv_pop S.1 S.2.1 dX10_rules_16 rfl ?_
  refine lv_iload_n S.1 S.2.1 dX10_rules_17 rfl (lv_at hl 0 rfl) ?_
  obtain rfl := Option.some.inj hF
  exact xr_i S hr hlk hW rfl rfl dX10_rules_18
