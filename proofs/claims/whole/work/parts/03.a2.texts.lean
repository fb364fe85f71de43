def fJ_canEncode (a1 : Int32) : Option Int32 :=
  if a1 < 0 then
  some ((0 : Int32))
  else
  if (255 : Int32) < a1 then
  some ((0 : Int32))
  else
  some ((1 : Int32))
set_option maxRecDepth 100000 in
set_option maxHeartbeats 4000000 in
theorem cJ_canEncode (l : Launch) {a1 : Int32} {o : Int32} (hF : fJ_canEncode a1 = some o) : Ms l yJ1_canEncode_9a6ad cJ1_canEncode_9a6ad 1 .boolean { frames := 0, cells := 0, slots := 0, locals := 0 } [.int a1] o := by
  refine Ms.of (own := RJ1) rfl (by decide +kernel) (Nat.le_of_ble_eq_true rfl) ?_
  intro p e s m args below meth c ls S hr hlk hl
  have hl : lv_has ls 1 [(0, .int a1)] := hl
  rw [fJ_canEncode] at hF
  refine lv_iload_n S.1 S.2.1 dJ1_canEncode_9a6ad_0 rfl (lv_at hl 0 rfl) ?_
  refine lv_if_lt (tgt := 15) S.1 S.2.1 dJ1_canEncode_9a6ad_1 (by decide) (fun hc => ?_) (fun hc => ?_)
  · have hF := it_pos hc hF
    refine lv_iconst (v := (0 : Int32)) S.1 S.2.1 dJ1_canEncode_9a6ad_15 (by decide) ?_
    obtain rfl := Option.some.inj hF
    exact rs_i S hr hlk rfl rfl dJ1_canEncode_9a6ad_16
  · have hF := it_neg hc hF
    refine lv_iload_n S.1 S.2.1 dJ1_canEncode_9a6ad_4 rfl (lv_at hl 0 rfl) ?_
    refine lv_sipush (v := (255 : Int32)) S.1 S.2.1 dJ1_canEncode_9a6ad_5 (by decide) ?_
    refine lv_icmp_gt (tgt := 15) S.1 S.2.1 dJ1_canEncode_9a6ad_8 (by decide) (fun hc => ?_) (fun hc => ?_)
    · have hF := it_pos hc hF
      refine lv_iconst (v := (0 : Int32)) S.1 S.2.1 dJ1_canEncode_9a6ad_15 (by decide) ?_
      obtain rfl := Option.some.inj hF
      exact rs_i S hr hlk rfl rfl dJ1_canEncode_9a6ad_16
    · have hF := it_neg hc hF
      refine lv_iconst (v := (1 : Int32)) S.1 S.2.1 dJ1_canEncode_9a6ad_11 (by decide) ?_
      refine lv_goto (tgt := 16) S.1 S.2.1 dJ1_canEncode_9a6ad_12 (by decide) ?_
      obtain rfl := Option.some.inj hF
      exact rs_i S hr hlk rfl rfl dJ1_canEncode_9a6ad_16
def fK_isLatin1 (a0 : Nat) : Option Int32 :=
  if (1 : Int32) = 0 then
  some ((0 : Int32))
  else
  if 9 ≤ a0 then none else
  if (0 : Int32) = 0 then
  some ((1 : Int32))
  else
  some ((0 : Int32))
set_option maxRecDepth 100000 in
set_option maxHeartbeats 4000000 in
theorem cK_isLatin1 (l : Launch) (A : Nat → Prop) (kk : Nat → Nat) {a0 : Nat} {o : Int32} (hF : fK_isLatin1 a0 = some o) : Mp l yJ0_isLatin1_aae02 cJ0_isLatin1_aae02 1 .boolean { frames := 0, cells := 0, slots := 0, locals := 0 } [.ref (kk a0)] (KC A kk) o := by
  refine Mp.of (own := RJ0) rfl (by decide +kernel) (Nat.le_of_ble_eq_true rfl) ?_
  intro p e s m args below meth c ls S hr hlk hC hl
  have hl : lv_has ls 1 [(0, .ref (kk a0))] := hl
  rw [fK_isLatin1] at hF
  refine va_gets S.1 S.2.1 hC.2.2.1 va_S.rf S.2.2.2.1 (S.2.2.2.2 _ m_293) (fun _ h => h) dJ0_isLatin1_aae02_0 ?_
  refine lv_if_eq (tgt := 17) S.1 S.2.1 dJ0_isLatin1_aae02_3 (by decide) (fun hc => ?_) (fun hc => ?_)
  · have hF := it_pos hc hF
    refine lv_iconst (v := (0 : Int32)) S.1 S.2.1 dJ0_isLatin1_aae02_17 (by decide) ?_
    obtain rfl := Option.some.inj hF
    exact rs_i S hr hlk rfl rfl dJ0_isLatin1_aae02_18
  · have hF := it_neg hc hF
    refine lv_aload_n S.1 S.2.1 dJ0_isLatin1_aae02_6 rfl (lv_at hl 0 rfl) ?_
    obtain ⟨h1, hF⟩ := gd_of hF
    refine vk_getf S.1 S.2.1 (hC.1.1 a0 (Nat.lt_of_not_le h1)).2.1 va_S.rf S.2.2.2.1 (S.2.2.2.2 _ m_294) (fun _ h => h) dJ0_isLatin1_aae02_7 ?_
    refine lv_if_ne (tgt := 17) S.1 S.2.1 dJ0_isLatin1_aae02_10 (by decide) (fun hc => ?_) (fun hc => ?_)
    · have hF := it_neg hc hF
      refine lv_iconst (v := (0 : Int32)) S.1 S.2.1 dJ0_isLatin1_aae02_17 (by decide) ?_
      obtain rfl := Option.some.inj hF
      exact rs_i S hr hlk rfl rfl dJ0_isLatin1_aae02_18
    · have hF := it_pos hc hF
      refine lv_iconst (v := (1 : Int32)) S.1 S.2.1 dJ0_isLatin1_aae02_13 (by decide) ?_
      refine lv_goto (tgt := 18) S.1 S.2.1 dJ0_isLatin1_aae02_14 (by decide) ?_
      obtain rfl := Option.some.inj hF
      exact rs_i S hr hlk rfl rfl dJ0_isLatin1_aae02_18
def fK_coder (a0 : Nat) : Option Int32 :=
  if (1 : Int32) = 0 then
  some ((1 : Int32))
  else
  if 9 ≤ a0 then none else
  some ((0 : Int32))
set_option maxRecDepth 100000 in
set_option maxHeartbeats 4000000 in
theorem cK_coder (l : Launch) (A : Nat → Prop) (kk : Nat → Nat) {a0 : Nat} {o : Int32} (hF : fK_coder a0 = some o) : Mp l yJ0_coder_7d493 cJ0_coder_7d493 1 .byte { frames := 0, cells := 0, slots := 0, locals := 0 } [.ref (kk a0)] (KC A kk) o := by
  refine Mp.of (own := RJ0) rfl (by decide +kernel) (Nat.le_of_ble_eq_true rfl) ?_
  intro p e s m args below meth c ls S hr hlk hC hl
  have hl : lv_has ls 1 [(0, .ref (kk a0))] := hl
  rw [fK_coder] at hF
  refine va_gets S.1 S.2.1 hC.2.2.1 va_S.rf S.2.2.2.1 (S.2.2.2.2 _ m_293) (fun _ h => h) dJ0_coder_7d493_0 ?_
  refine lv_if_eq (tgt := 13) S.1 S.2.1 dJ0_coder_7d493_3 (by decide) (fun hc => ?_) (fun hc => ?_)
  · have hF := it_pos hc hF
    refine lv_iconst (v := (1 : Int32)) S.1 S.2.1 dJ0_coder_7d493_13 (by decide) ?_
    obtain rfl := Option.some.inj hF
    exact rs_i S hr hlk rfl rfl dJ0_coder_7d493_14
  · have hF := it_neg hc hF
    refine lv_aload_n S.1 S.2.1 dJ0_coder_7d493_6 rfl (lv_at hl 0 rfl) ?_
    obtain ⟨h1, hF⟩ := gd_of hF
    refine vk_getf S.1 S.2.1 (hC.1.1 a0 (Nat.lt_of_not_le h1)).2.1 va_S.rf S.2.2.2.1 (S.2.2.2.2 _ m_294) (fun _ h => h) dJ0_coder_7d493_7 ?_
    refine lv_goto (tgt := 14) S.1 S.2.1 dJ0_coder_7d493_10 (by decide) ?_
    obtain rfl := Option.some.inj hF
    exact rs_i S hr hlk rfl rfl dJ0_coder_7d493_14
def fK_length (a0 : Nat) : Option Int32 :=
  if 9 ≤ a0 then none else
  Option.bind (fK_coder a0) (fun u2 =>
  some (((nI (klen.getD a0 0)) >>> (u2 &&& 31))))
set_option maxRecDepth 100000 in
set_option maxHeartbeats 4000000 in
theorem cK_length (l : Launch) (A : Nat → Prop) (kk : Nat → Nat) {a0 : Nat} {o : Int32} (hF : fK_length a0 = some o) : Mp l yJ0_length_8abf5 cJ0_length_8abf5 1 .int { frames := 1, cells := 0, slots := 0, locals := 20 } [.ref (kk a0)] (KC A kk) o := by
  refine Mp.of (own := RJ0) rfl (by decide +kernel) (Nat.le_of_ble_eq_true rfl) ?_
  intro p e s m args below meth c ls S hr hlk hC hl
  have hl : lv_has ls 1 [(0, .ref (kk a0))] := hl
  rw [fK_length] at hF
  refine lv_aload_n S.1 S.2.1 dJ0_length_8abf5_0 rfl (lv_at hl 0 rfl) ?_
  obtain ⟨h1, hF⟩ := gd_of hF
  refine vk_getf S.1 S.2.1 (hC.1.1 a0 (Nat.lt_of_not_le h1)).2.2.1 va_S.rf S.2.2.2.1 (S.2.2.2.2 _ m_288) (fun _ h => h) dJ0_length_8abf5_1 ?_
  refine va_tlen (v := (nI (klen.getD a0 0))) S.1 S.2.1 (hC.1.1 a0 (Nat.lt_of_not_le h1)).2.2.2 va_S.rf rfl dJ0_length_8abf5_4 ?_
  refine lv_aload_n S.1 S.2.1 dJ0_length_8abf5_5 rfl (lv_at hl 0 rfl) ?_
  obtain ⟨u2, hu2, hF⟩ := bd_of hF
  refine kc_i (k := 0) (As := []) (rest := [.int ((nI (klen.getD a0 0)))]) (cK_coder l _ kk hu2) (fun U hU hw => hC.kept va_S.rf hU hw) (fun _ _ _ _ h => h.same) (vk_recv hC.1 (Nat.lt_of_not_le h1) va_S.rf) S (gd_V m_289 m_290 m_291 m_286 m_292) rfl rfl (by decide +kernel) ⟨Nat.le_of_ble_eq_true rfl, Nat.le_of_ble_eq_true rfl⟩ rfl hl.1 rfl (Nat.le_of_ble_eq_true rfl) ⟨Nat.le_of_ble_eq_true rfl, Nat.le_of_ble_eq_true rfl⟩ dJ0_length_8abf5_6 ?_
  refine lv_ishr S.1 S.2.1 dJ0_length_8abf5_9 ?_
  obtain rfl := Option.some.inj hF
  exact rs_i S hr hlk rfl rfl dJ0_length_8abf5_10
def fK_checkIdx (a1 : Int32) (a2 : Int32) : Option Int32 :=
  if a1 < 0 then
  none
  else
  if a1 < a2 then
  some a1
  else
  none
set_option maxRecDepth 100000 in
set_option maxHeartbeats 4000000 in
theorem cK_checkIdx (l : Launch) (A : Nat → Prop) (kk : Nat → Nat) (t3 : Nat) {a1 : Int32} {a2 : Int32} {o : Int32} (hF : fK_checkIdx a1 a2 = some o) : Mp l yJ3_checkIndex_8e157 cJ3_checkIndex_8e157 3 .int { frames := 0, cells := 0, slots := 0, locals := 0 } [.int a1, .int a2, .ref t3] (KC A kk) o := by
  refine Mp.of (own := RJ3) rfl (by decide +kernel) (Nat.le_of_ble_eq_true rfl) ?_
  intro p e s m args below meth c ls S hr hlk hC hl
  have hl : lv_has ls 3 [(0, .int a1), (1, .int a2), (2, .ref t3)] := hl
  rw [fK_checkIdx] at hF
  refine lv_iload_n S.1 S.2.1 dJ3_checkIndex_8e157_0 rfl (lv_at hl 0 rfl) ?_
  refine lv_if_lt (tgt := 9) S.1 S.2.1 dJ3_checkIndex_8e157_1 (by decide) (fun hc => ?_) (fun hc => ?_)
  · have hF := it_pos hc hF
    cases hF
  · have hF := it_neg hc hF
    refine lv_iload_n S.1 S.2.1 dJ3_checkIndex_8e157_4 rfl (lv_at hl 0 rfl) ?_
    refine lv_iload_n S.1 S.2.1 dJ3_checkIndex_8e157_5 rfl (lv_at hl 1 rfl) ?_
    refine lv_icmp_lt (tgt := 16) S.1 S.2.1 dJ3_checkIndex_8e157_6 (by decide) (fun hc => ?_) (fun hc => ?_)
    · have hF := it_pos hc hF
      refine lv_iload_n S.1 S.2.1 dJ3_checkIndex_8e157_16 rfl (lv_at hl 0 rfl) ?_
      obtain rfl := Option.some.inj hF
      exact rs_i S hr hlk rfl rfl dJ3_checkIndex_8e157_17
    · have hF := it_neg hc hF
      cases hF
set_option maxRecDepth 100000 in
set_option maxHeartbeats 4000000 in
theorem cK_checkIdx_n (l : Launch) (A : Nat → Prop) (kk : Nat → Nat) {a1 : Int32} {a2 : Int32} {o : Int32} (hF : fK_checkIdx a1 a2 = some o) : Mp l yJ3_checkIndex_8e157 cJ3_checkIndex_8e157 3 .int { frames := 0, cells := 0, slots := 0, locals := 0 } [.int a1, .int a2, .null] (KC A kk) o := by
  refine Mp.of (own := RJ3) rfl (by decide +kernel) (Nat.le_of_ble_eq_true rfl) ?_
  intro p e s m args below meth c ls S hr hlk hC hl
  have hl : lv_has ls 3 [(0, .int a1), (1, .int a2), (2, .null)] := hl
  rw [fK_checkIdx] at hF
  refine lv_iload_n S.1 S.2.1 dJ3_checkIndex_8e157_0 rfl (lv_at hl 0 rfl) ?_
  refine lv_if_lt (tgt := 9) S.1 S.2.1 dJ3_checkIndex_8e157_1 (by decide) (fun hc => ?_) (fun hc => ?_)
  · have hF := it_pos hc hF
    cases hF
  · have hF := it_neg hc hF
    refine lv_iload_n S.1 S.2.1 dJ3_checkIndex_8e157_4 rfl (lv_at hl 0 rfl) ?_
    refine lv_iload_n S.1 S.2.1 dJ3_checkIndex_8e157_5 rfl (lv_at hl 1 rfl) ?_
    refine lv_icmp_lt (tgt := 16) S.1 S.2.1 dJ3_checkIndex_8e157_6 (by decide) (fun hc => ?_) (fun hc => ?_)
    · have hF := it_pos hc hF
      refine lv_iload_n S.1 S.2.1 dJ3_checkIndex_8e157_16 rfl (lv_at hl 0 rfl) ?_
      obtain rfl := Option.some.inj hF
      exact rs_i S hr hlk rfl rfl dJ3_checkIndex_8e157_17
    · have hF := it_neg hc hF
      cases hF
def fK_checkIndex (a1 a2 : Int32) : Option Unit := Option.bind (fK_checkIdx a1 a2) (fun _ => some ())
set_option maxRecDepth 100000 in
set_option maxHeartbeats 4000000 in
theorem cK_checkIndex (l : Launch) (A : Nat → Prop) (kk : Nat → Nat) {a1 a2 : Int32} {o : Unit} (hF : fK_checkIndex a1 a2 = some o) : Mq l yJ0_checkIndex_df160 cJ0_checkIndex_df160 2 { frames := 1, cells := 0, slots := 0, locals := 22 } [.int a1, .int a2] (KC A kk) := by
  refine Mq.of (own := RJ0) rfl (by decide +kernel) (Nat.le_of_ble_eq_true rfl) ?_
  intro p e s m args below meth c ls S hr hlk hC hl
  have hl : lv_has ls 2 [(0, .int a1), (1, .int a2)] := hl
  rw [fK_checkIndex] at hF
  obtain ⟨u, hu, -⟩ := bd_of hF
  refine lv_iload_n S.1 S.2.1 dJ0_checkIndex_df160_0 rfl (lv_at hl 0 rfl) ?_
  refine lv_iload_n S.1 S.2.1 dJ0_checkIndex_df160_1 rfl (lv_at hl 1 rfl) ?_
  rcases hC.2.2.2.2.2.2.2.2.2.2.1 with hz | ⟨t, hz⟩
  · refine va_gets S.1 S.2.1 hz va_S.rf S.2.2.2.1 (S.2.2.2.2 _ m_310) (fun _ h => h) dJ0_checkIndex_df160_2 ?_
    refine kc_s (k := 3) (As := [.int a1, .int a2, .null]) (rest := []) (cK_checkIdx_n l A kk hu) (fun U hU hw => hC.kept va_S.rf hU hw) (fun _ _ _ _ h => h.same) S (gd_S m_311 m_312 m_313 m_314) rfl rfl (by decide +kernel) ⟨Nat.le_of_ble_eq_true rfl, Nat.le_of_ble_eq_true rfl⟩ rfl hl.1 rfl (Nat.le_of_ble_eq_true rfl) ⟨Nat.le_of_ble_eq_true rfl, Nat.le_of_ble_eq_true rfl⟩ dJ0_checkIndex_df160_5 ?_
    refine lv_pop S.1 S.2.1 dJ0_checkIndex_df160_8 rfl ?_
    exact rs_v S hr hlk dJ0_checkIndex_df160_9
  · refine va_gets S.1 S.2.1 hz va_S.rf S.2.2.2.1 (S.2.2.2.2 _ m_310) (fun _ h => h) dJ0_checkIndex_df160_2 ?_
    refine kc_s (k := 3) (As := [.int a1, .int a2, .ref t]) (rest := []) (cK_checkIdx l A kk t hu) (fun U hU hw => hC.kept va_S.rf hU hw) (fun _ _ _ _ h => h.same) S (gd_S m_311 m_312 m_313 m_314) rfl rfl (by decide +kernel) ⟨Nat.le_of_ble_eq_true rfl, Nat.le_of_ble_eq_true rfl⟩ rfl hl.1 rfl (Nat.le_of_ble_eq_true rfl) ⟨Nat.le_of_ble_eq_true rfl, Nat.le_of_ble_eq_true rfl⟩ dJ0_checkIndex_df160_5 ?_
    refine lv_pop S.1 S.2.1 dJ0_checkIndex_df160_8 rfl ?_
    exact rs_v S hr hlk dJ0_checkIndex_df160_9
def fK_charAtL (a1 : Nat) (a2 : Int32) : Option Int32 :=
  if 9 ≤ a1 then none else
  Option.bind (fK_checkIndex a2 ((nI (klen.getD a1 0)))) (fun u2 =>
  if a2 < 0 ∨ klen.getD a1 0 ≤ (a2).toNatClampNeg then none else
  some ((((((kbyt.getD a1 []).getD (a2).toNatClampNeg 0) &&& (255 : Int32))).toUInt32 % 65536).toInt32))
set_option maxRecDepth 100000 in
set_option maxHeartbeats 4000000 in
theorem cK_charAtL (l : Launch) (A : Nat → Prop) (kk : Nat → Nat) {a1 : Nat} {a2 : Int32} {o : Int32} (hF : fK_charAtL a1 a2 = some o) : Mp l yJ1_charAt_3b067 cJ1_charAt_3b067 2 .char { frames := 2, cells := 0, slots := 0, locals := 43 } [.ref (kk (20 + a1)), .int a2] (KC A kk) o := by
  refine Mp.of (own := RJ1) rfl (by decide +kernel) (Nat.le_of_ble_eq_true rfl) ?_
  intro p e s m args below meth c ls S hr hlk hC hl
  have hl : lv_has ls 2 [(0, .ref (kk (20 + a1))), (1, .int a2)] := hl
  rw [fK_charAtL] at hF
  refine lv_iload_n S.1 S.2.1 dJ1_charAt_3b067_0 rfl (lv_at hl 1 rfl) ?_
  refine lv_aload_n S.1 S.2.1 dJ1_charAt_3b067_1 rfl (lv_at hl 0 rfl) ?_
  obtain ⟨h1, hF⟩ := gd_of hF
  refine va_tlen (v := (nI (klen.getD a1 0))) S.1 S.2.1 (hC.1.1 a1 (Nat.lt_of_not_le h1)).2.2.2 va_S.rf rfl dJ1_charAt_3b067_2 ?_
  obtain ⟨u2, hu2, hF⟩ := bd_of hF
  refine kc_sv (k := 2) (As := [.int a2, .int ((nI (klen.getD a1 0)))]) (rest := []) (cK_checkIndex l _ kk hu2) (fun U hU hw => hC.kept va_S.rf hU hw) (fun _ _ _ _ h => h.same) S (gd_S m_307 m_308 m_286 m_309) rfl rfl (by decide +kernel) ⟨Nat.le_of_ble_eq_true rfl, Nat.le_of_ble_eq_true rfl⟩ rfl hl.1 rfl (Nat.le_of_ble_eq_true rfl) ⟨Nat.le_of_ble_eq_true rfl, Nat.le_of_ble_eq_true rfl⟩ dJ1_charAt_3b067_3 ?_
  refine lv_aload_n S.1 S.2.1 dJ1_charAt_3b067_6 rfl (lv_at hl 0 rfl) ?_
  refine lv_iload_n S.1 S.2.1 dJ1_charAt_3b067_7 rfl (lv_at hl 1 rfl) ?_
  obtain ⟨h3, hF⟩ := gd_of hF
  refine va_tb (v := .int ((kbyt.getD a1 []).getD (a2).toNatClampNeg 0)) S.1 S.2.1 (hC.1.1 a1 (Nat.lt_of_not_le h1)).2.2.2 va_S.rf h3 rfl dJ1_charAt_3b067_8 ?_
  refine lv_sipush (v := (255 : Int32)) S.1 S.2.1 dJ1_charAt_3b067_9 (by decide) ?_
  refine lv_iand S.1 S.2.1 dJ1_charAt_3b067_12 ?_
  refine lv_i2c (v := (((((kbyt.getD a1 []).getD (a2).toNatClampNeg 0) &&& (255 : Int32))).toUInt32 % 65536).toInt32) S.1 S.2.1 dJ1_charAt_3b067_13 rfl ?_
  obtain rfl := Option.some.inj hF
  exact rs_i S hr hlk (pk_nc _) rfl dJ1_charAt_3b067_14
def fK_charAt (a0 : Nat) (a1 : Int32) : Option Int32 :=
  Option.bind (fK_isLatin1 a0) (fun u1 =>
  if 9 ≤ a0 then none else
  if u1 = 0 then
  none
  else
  Option.bind (fK_charAtL a0 a1) (fun u3 =>
  if ((u3).toUInt32 % 65536).toInt32 = u3 then some u3 else none))
set_option maxRecDepth 100000 in
set_option maxHeartbeats 4000000 in
theorem cK_charAt (l : Launch) (A : Nat → Prop) (kk : Nat → Nat) {a0 : Nat} {a1 : Int32} {o : Int32} (hF : fK_charAt a0 a1 = some o) : Mp l yJ0_charAt_5068e cJ0_charAt_5068e 2 .char { frames := 3, cells := 0, slots := 0, locals := 64 } [.ref (kk a0), .int a1] (KC A kk) o := by
  refine Mp.of (own := RJ0) rfl (by decide +kernel) (Nat.le_of_ble_eq_true rfl) ?_
  intro p e s m args below meth c ls S hr hlk hC hl
  have hl : lv_has ls 2 [(0, .ref (kk a0)), (1, .int a1)] := hl
  rw [fK_charAt] at hF
  refine lv_aload_n S.1 S.2.1 dJ0_charAt_5068e_0 rfl (lv_at hl 0 rfl) ?_
  obtain ⟨u1, hu1, hF⟩ := bd_of hF
  obtain ⟨h2, hF⟩ := gd_of hF
  refine kc_i (k := 0) (As := []) (rest := []) (cK_isLatin1 l _ kk hu1) (fun U hU hw => hC.kept va_S.rf hU hw) (fun _ _ _ _ h => h.same) (vk_recv hC.1 (Nat.lt_of_not_le h2) va_S.rf) S (gd_V m_299 m_300 m_301 m_286 m_302) rfl rfl (by decide +kernel) ⟨Nat.le_of_ble_eq_true rfl, Nat.le_of_ble_eq_true rfl⟩ rfl hl.1 rfl (Nat.le_of_ble_eq_true rfl) ⟨Nat.le_of_ble_eq_true rfl, Nat.le_of_ble_eq_true rfl⟩ dJ0_charAt_5068e_1 ?_
  refine lv_if_eq (tgt := 16) S.1 S.2.1 dJ0_charAt_5068e_4 (by decide) (fun hc => ?_) (fun hc => ?_)
  · have hF := it_pos hc hF
    cases hF
  · have hF := it_neg hc hF
    refine lv_aload_n S.1 S.2.1 dJ0_charAt_5068e_7 rfl (lv_at hl 0 rfl) ?_
    refine vk_getf S.1 S.2.1 (hC.1.1 a0 (Nat.lt_of_not_le h2)).2.2.1 va_S.rf S.2.2.2.1 (S.2.2.2.2 _ m_288) (fun _ h => h) dJ0_charAt_5068e_8 ?_
    refine lv_iload_n S.1 S.2.1 dJ0_charAt_5068e_11 rfl (lv_at hl 1 rfl) ?_
    obtain ⟨u3, hu3, hF⟩ := bd_of hF
    refine kc_s (k := 2) (As := [.ref (kk (20 + a0)), .int a1]) (rest := []) (cK_charAtL l _ kk hu3) (fun U hU hw => hC.kept va_S.rf hU hw) (fun _ _ _ _ h => h.same) S (gd_S m_303 m_304 m_305 m_306) rfl rfl (by decide +kernel) ⟨Nat.le_of_ble_eq_true rfl, Nat.le_of_ble_eq_true rfl⟩ rfl hl.1 rfl (Nat.le_of_ble_eq_true rfl) ⟨Nat.le_of_ble_eq_true rfl, Nat.le_of_ble_eq_true rfl⟩ dJ0_charAt_5068e_12 ?_
    obtain ⟨hb, hF⟩ := gt_of hF
    obtain rfl := Option.some.inj hF
    exact rs_i S hr hlk (char_nar hb) rfl dJ0_charAt_5068e_15
def fK_indexOfChar_L7 (l0 : Nat) (l3 : Int32) (l4 : Int32) : Nat → Int32 → Option ((Unit) ⊕ (Int32))
  | 0, _ => none
  | n + 1, x5 =>
    if l3 ≤ x5 then
    some (Sum.inl (()))
    else
    if 9 ≤ l0 then none else
    if x5 < 0 ∨ klen.getD l0 0 ≤ (x5).toNatClampNeg then none else
    if ((kbyt.getD l0 []).getD (x5).toNatClampNeg 0) = l4 then
    some (Sum.inr (x5))
    else
    fK_indexOfChar_L7 l0 l3 l4 n ((x5 + (1 : Int32)))
def fK_indexOfChar (a1 : Nat) (a2 : Int32) (a3 : Int32) (a4 : Int32) : Option Int32 :=
  Option.bind (fK_indexOfChar_L7 a1 a4 ((a2).toInt8.toInt32) 1000 a3) (fun w5 => Sum.elim (fun u1 =>
  some ((-1 : Int32))) (fun r => some r) w5)
set_option maxRecDepth 100000 in
set_option maxHeartbeats 4000000 in
theorem cK_indexOfChar (l : Launch) (A : Nat → Prop) (kk : Nat → Nat) {a1 : Nat} {a2 : Int32} {a3 : Int32} {a4 : Int32} {o : Int32} (hF : fK_indexOfChar a1 a2 a3 a4 = some o) : Mp l yJ1_indexOfChar_4cfef cJ1_indexOfChar_4cfef 6 .int { frames := 0, cells := 0, slots := 0, locals := 0 } [.ref (kk (20 + a1)), .int a2, .int a3, .int a4] (KC A kk) o := by
  refine Mp.of (own := RJ1) rfl (by decide +kernel) (Nat.le_of_ble_eq_true rfl) ?_
  intro p e s m args below meth c ls S hr hlk hC hl
  have hl : lv_has ls 6 [(0, .ref (kk (20 + a1))), (1, .int a2), (2, .int a3), (3, .int a4)] := hl
  rw [fK_indexOfChar] at hF
  refine lv_iload_n S.1 S.2.1 dJ1_indexOfChar_4cfef_0 rfl (lv_at hl 1 rfl) ?_
  refine lv_i2b (v := (a2).toInt8.toInt32) S.1 S.2.1 dJ1_indexOfChar_4cfef_1 rfl ?_
  refine lv_istore (lv' := [(4, .int ((a2).toInt8.toInt32)), (0, .ref (kk (20 + a1))), (1, .int a2), (2, .int a3), (3, .int a4)]) S.1 S.2.1 dJ1_indexOfChar_4cfef_2 hl (by decide) rfl (fun ls hl => ?_)
  refine lv_iload_n S.1 S.2.1 dJ1_indexOfChar_4cfef_4 rfl (lv_at hl 3 rfl) ?_
  refine lv_istore (lv' := [(5, .int a3), (4, .int ((a2).toInt8.toInt32)), (0, .ref (kk (20 + a1))), (1, .int a2), (2, .int a3), (3, .int a4)]) S.1 S.2.1 dJ1_indexOfChar_4cfef_5 hl (by decide) rfl (fun ls hl => ?_)
  obtain ⟨w5, hX, hF⟩ := bd_of hF
  refine jn1 (fun H locs ls => ∃ u1, w5 = Sum.inl u1 ∧ lv_has ls 6 [] ∧ H = s.heap ∧ locs = []) 31 [] (fun H locs ls hJ => ?_) (fun Ju1 => ?_)
  · obtain ⟨u1, rfl, hl, hW⟩ := hJ
    rw [Sum.elim_inl] at hF
    obtain ⟨rfl, rfl⟩ := hW
    refine lv_iconst (v := (-1 : Int32)) S.1 S.2.1 dJ1_indexOfChar_4cfef_31 (by decide) ?_
    obtain rfl := Option.some.inj hF
    exact rs_i S hr hlk rfl rfl dJ1_indexOfChar_4cfef_32
  · have hF0 := hF
    clear hF
    refine lpW (fun (xu1 : Int32) H locs ls => lv_has ls 6 [(0, .ref (kk (20 + a1))), (3, .int a4), (4, .int ((a2).toInt8.toInt32)), (5, .int xu1)] ∧ H = s.heap ∧ locs = []) 7 (fun n xu1 => fK_indexOfChar_L7 a1 a4 ((a2).toInt8.toInt32) n xu1) w5 (fun _ => rfl) (fun n xu1 ihu1 hF H locs ls hJ => ?_) 1000 (a3) hX _ _ _ ⟨lv_sub hl [2, 5, 1, 0] rfl, ⟨rfl, rfl⟩⟩
    obtain ⟨hl, hW⟩ := hJ
    obtain ⟨rfl, rfl⟩ := hW
    have hF : fK_indexOfChar_L7 a1 a4 ((a2).toInt8.toInt32) (n + 1) xu1 = some w5 := hF
    rw [fK_indexOfChar_L7] at hF
    refine lv_iload S.1 S.2.1 dJ1_indexOfChar_4cfef_7 (lv_at hl 3 rfl) ?_
    refine lv_iload_n S.1 S.2.1 dJ1_indexOfChar_4cfef_9 rfl (lv_at hl 1 rfl) ?_
    refine lv_icmp_ge (tgt := 31) S.1 S.2.1 dJ1_indexOfChar_4cfef_10 (by decide) (fun hc => ?_) (fun hc => ?_)
    · have hF := it_pos hc hF
      obtain rfl := Option.some.inj hF
      exact Ju1 _ _ _ ⟨_, rfl, lv_sub hl [] rfl, ⟨rfl, rfl⟩⟩
    · have hF := it_neg hc hF
      refine lv_aload_n S.1 S.2.1 dJ1_indexOfChar_4cfef_13 rfl (lv_at hl 0 rfl) ?_
      refine lv_iload S.1 S.2.1 dJ1_indexOfChar_4cfef_14 (lv_at hl 3 rfl) ?_
      obtain ⟨h3, hF⟩ := gd_of hF
      obtain ⟨h4, hF⟩ := gd_of hF
      refine va_tb (v := .int ((kbyt.getD a1 []).getD (xu1).toNatClampNeg 0)) S.1 S.2.1 (hC.1.1 a1 (Nat.lt_of_not_le h3)).2.2.2 va_S.rf h4 rfl dJ1_indexOfChar_4cfef_16 ?_
      refine lv_iload S.1 S.2.1 dJ1_indexOfChar_4cfef_17 (lv_at hl 2 rfl) ?_
      refine lv_icmp_ne (tgt := 25) S.1 S.2.1 dJ1_indexOfChar_4cfef_19 (by decide) (fun hc => ?_) (fun hc => ?_)
      · have hF := it_neg hc hF
        refine lv_iinc (v := (xu1 + (1 : Int32))) (lv' := [(5, .int ((xu1 + (1 : Int32)))), (0, .ref (kk (20 + a1))), (3, .int a4), (4, .int ((a2).toInt8.toInt32))]) S.1 S.2.1 dJ1_indexOfChar_4cfef_25 hl (k := 3) rfl rfl (by decide) rfl (fun ls hl => ?_)
        refine lv_goto (tgt := 7) S.1 S.2.1 dJ1_indexOfChar_4cfef_28 (by decide) ?_
        exact ihu1 ((xu1 + (1 : Int32))) hF _ _ _ ⟨lv_sub hl [1, 2, 3, 0] rfl, ⟨rfl, rfl⟩⟩
      · have hF := it_pos hc hF
        refine lv_iload S.1 S.2.1 dJ1_indexOfChar_4cfef_22 (lv_at hl 3 rfl) ?_
        obtain rfl := Option.some.inj hF
        have hF0 : some (xu1) = some o := hF0
        obtain rfl := Option.some.inj hF0
        exact rs_i S hr hlk rfl rfl dJ1_indexOfChar_4cfef_24
def fK_indexOfL (a1 : Nat) (a2 : Int32) (a3 : Int32) (a4 : Int32) : Option Int32 :=
  Option.bind (fJ_canEncode a2) (fun u1 =>
  if u1 = 0 then
  some ((-1 : Int32))
  else
  if 9 ≤ a1 then none else
  if (if a3 < (0 : Int32) then (0 : Int32) else a3) < (if (nI (klen.getD a1 0)) < a4 then (nI (klen.getD a1 0)) else a4) then
  Option.bind (fK_indexOfChar a1 a2 ((if a3 < (0 : Int32) then (0 : Int32) else a3)) ((if (nI (klen.getD a1 0)) < a4 then (nI (klen.getD a1 0)) else a4))) (fun u3 =>
  some u3)
  else
  some ((-1 : Int32)))
set_option maxRecDepth 100000 in
set_option maxHeartbeats 4000000 in
theorem cK_indexOfL (l : Launch) (A : Nat → Prop) (kk : Nat → Nat) {a1 : Nat} {a2 : Int32} {a3 : Int32} {a4 : Int32} {o : Int32} (hF : fK_indexOfL a1 a2 a3 a4 = some o) : Mp l yJ1_indexOf_4cfef cJ1_indexOf_4cfef 4 .int { frames := 1, cells := 0, slots := 0, locals := 25 } [.ref (kk (20 + a1)), .int a2, .int a3, .int a4] (KC A kk) o := by
  refine Mp.of (own := RJ1) rfl (by decide +kernel) (Nat.le_of_ble_eq_true rfl) ?_
  intro p e s m args below meth c ls S hr hlk hC hl
  have hl : lv_has ls 4 [(0, .ref (kk (20 + a1))), (1, .int a2), (2, .int a3), (3, .int a4)] := hl
  rw [fK_indexOfL] at hF
  refine lv_iload_n S.1 S.2.1 dJ1_indexOf_4cfef_0 rfl (lv_at hl 1 rfl) ?_
  obtain ⟨u1, hu1, hF⟩ := bd_of hF
  refine sc_i (k := 1) (As := [.int a2]) (rest := []) (cJ_canEncode l hu1) S (gd_S m_409 m_410 m_305 m_411) rfl rfl (by decide +kernel) ⟨Nat.le_of_ble_eq_true rfl, Nat.le_of_ble_eq_true rfl⟩ rfl hl.1 rfl (Nat.le_of_ble_eq_true rfl) ⟨Nat.le_of_ble_eq_true rfl, Nat.le_of_ble_eq_true rfl⟩ dJ1_indexOf_4cfef_1 ?_
  refine lv_if_ne (tgt := 9) S.1 S.2.1 dJ1_indexOf_4cfef_4 (by decide) (fun hc => ?_) (fun hc => ?_)
  · have hF := it_neg hc hF
    refine lv_iload_n S.1 S.2.1 dJ1_indexOf_4cfef_9 rfl (lv_at hl 2 rfl) ?_
    refine lv_iconst (v := (0 : Int32)) S.1 S.2.1 dJ1_indexOf_4cfef_10 (by decide) ?_
    refine va_mmax S.1 S.2.1 (S.2.2.1.trans hl.1.symm) S.2.2.2.1 (S.2.2.2.2 _ mx_1220) (S.2.2.2.2 _ mx_256) (S.2.2.2.2 _ m_134) (S.2.2.2.2 _ mx_257) (Nat.le_of_ble_eq_true rfl) (Nat.le_of_ble_eq_true rfl) (Nat.le_of_ble_eq_true rfl) (Nat.le_of_ble_eq_true rfl) dJ1_indexOf_4cfef_11 ?_
    refine lv_istore_n (lv' := [(2, .int ((if a3 < (0 : Int32) then (0 : Int32) else a3))), (0, .ref (kk (20 + a1))), (1, .int a2), (3, .int a4)]) S.1 S.2.1 dJ1_indexOf_4cfef_14 rfl hl (by decide) rfl (fun ls hl => ?_)
    refine lv_iload_n S.1 S.2.1 dJ1_indexOf_4cfef_15 rfl (lv_at hl 3 rfl) ?_
    refine lv_aload_n S.1 S.2.1 dJ1_indexOf_4cfef_16 rfl (lv_at hl 1 rfl) ?_
    obtain ⟨h2, hF⟩ := gd_of hF
    refine va_tlen (v := (nI (klen.getD a1 0))) S.1 S.2.1 (hC.1.1 a1 (Nat.lt_of_not_le h2)).2.2.2 va_S.rf rfl dJ1_indexOf_4cfef_17 ?_
    refine va_mmin S.1 S.2.1 (S.2.2.1.trans hl.1.symm) S.2.2.2.1 (S.2.2.2.2 _ mx_1221) (S.2.2.2.2 _ mx_290) (S.2.2.2.2 _ m_134) (S.2.2.2.2 _ mx_291) (Nat.le_of_ble_eq_true rfl) (Nat.le_of_ble_eq_true rfl) (Nat.le_of_ble_eq_true rfl) (Nat.le_of_ble_eq_true rfl) dJ1_indexOf_4cfef_18 ?_
    refine lv_istore_n (lv' := [(3, .int ((if (nI (klen.getD a1 0)) < a4 then (nI (klen.getD a1 0)) else a4))), (2, .int ((if a3 < (0 : Int32) then (0 : Int32) else a3))), (0, .ref (kk (20 + a1))), (1, .int a2)]) S.1 S.2.1 dJ1_indexOf_4cfef_21 rfl hl (by decide) rfl (fun ls hl => ?_)
    refine lv_iload_n S.1 S.2.1 dJ1_indexOf_4cfef_22 rfl (lv_at hl 1 rfl) ?_
    refine lv_iload_n S.1 S.2.1 dJ1_indexOf_4cfef_23 rfl (lv_at hl 0 rfl) ?_
    refine lv_icmp_lt (tgt := 29) S.1 S.2.1 dJ1_indexOf_4cfef_24 (by decide) (fun hc => ?_) (fun hc => ?_)
    · have hF := it_pos hc hF
      refine lv_aload_n S.1 S.2.1 dJ1_indexOf_4cfef_29 rfl (lv_at hl 2 rfl) ?_
      refine lv_iload_n S.1 S.2.1 dJ1_indexOf_4cfef_30 rfl (lv_at hl 3 rfl) ?_
      refine lv_iload_n S.1 S.2.1 dJ1_indexOf_4cfef_31 rfl (lv_at hl 1 rfl) ?_
      refine lv_iload_n S.1 S.2.1 dJ1_indexOf_4cfef_32 rfl (lv_at hl 0 rfl) ?_
      obtain ⟨u3, hu3, hF⟩ := bd_of hF
      refine kc_s (k := 4) (As := [.ref (kk (20 + a1)), .int a2, .int ((if a3 < (0 : Int32) then (0 : Int32) else a3)), .int ((if (nI (klen.getD a1 0)) < a4 then (nI (klen.getD a1 0)) else a4))]) (rest := []) (cK_indexOfChar l _ kk hu3) (fun U hU hw => hC.kept va_S.rf hU hw) (fun _ _ _ _ h => h.same) S (gd_S m_412 m_413 m_305 m_414) rfl rfl (by decide +kernel) ⟨Nat.le_of_ble_eq_true rfl, Nat.le_of_ble_eq_true rfl⟩ rfl hl.1 rfl (Nat.le_of_ble_eq_true rfl) ⟨Nat.le_of_ble_eq_true rfl, Nat.le_of_ble_eq_true rfl⟩ dJ1_indexOf_4cfef_33 ?_
      obtain rfl := Option.some.inj hF
      exact rs_i S hr hlk rfl rfl dJ1_indexOf_4cfef_36
    · have hF := it_neg hc hF
      refine lv_iconst (v := (-1 : Int32)) S.1 S.2.1 dJ1_indexOf_4cfef_27 (by decide) ?_
      obtain rfl := Option.some.inj hF
      exact rs_i S hr hlk rfl rfl dJ1_indexOf_4cfef_28
  · have hF := it_pos hc hF
    refine lv_iconst (v := (-1 : Int32)) S.1 S.2.1 dJ1_indexOf_4cfef_7 (by decide) ?_
    obtain rfl := Option.some.inj hF
    exact rs_i S hr hlk rfl rfl dJ1_indexOf_4cfef_8
def fK_indexOf (a0 : Nat) (a1 : Int32) (a2 : Int32) : Option Int32 :=
  Option.bind (fK_isLatin1 a0) (fun u1 =>
  if 9 ≤ a0 then none else
  if u1 = 0 then
  none
  else
  Option.bind (fK_length a0) (fun u3 =>
  Option.bind (fK_indexOfL a0 a1 a2 u3) (fun u4 =>
  some u4)))
set_option maxRecDepth 100000 in
set_option maxHeartbeats 4000000 in
theorem cK_indexOf (l : Launch) (A : Nat → Prop) (kk : Nat → Nat) {a0 : Nat} {a1 : Int32} {a2 : Int32} {o : Int32} (hF : fK_indexOf a0 a1 a2 = some o) : Mp l yJ0_indexOf_7cf53 cJ0_indexOf_7cf53 3 .int { frames := 2, cells := 0, slots := 0, locals := 48 } [.ref (kk a0), .int a1, .int a2] (KC A kk) o := by
  refine Mp.of (own := RJ0) rfl (by decide +kernel) (Nat.le_of_ble_eq_true rfl) ?_
  intro p e s m args below meth c ls S hr hlk hC hl
  have hl : lv_has ls 3 [(0, .ref (kk a0)), (1, .int a1), (2, .int a2)] := hl
  rw [fK_indexOf] at hF
  refine lv_aload_n S.1 S.2.1 dJ0_indexOf_7cf53_0 rfl (lv_at hl 0 rfl) ?_
  obtain ⟨u1, hu1, hF⟩ := bd_of hF
  obtain ⟨h2, hF⟩ := gd_of hF
  refine kc_i (k := 0) (As := []) (rest := []) (cK_isLatin1 l _ kk hu1) (fun U hU hw => hC.kept va_S.rf hU hw) (fun _ _ _ _ h => h.same) (vk_recv hC.1 (Nat.lt_of_not_le h2) va_S.rf) S (gd_V m_299 m_300 m_301 m_286 m_302) rfl rfl (by decide +kernel) ⟨Nat.le_of_ble_eq_true rfl, Nat.le_of_ble_eq_true rfl⟩ rfl hl.1 rfl (Nat.le_of_ble_eq_true rfl) ⟨Nat.le_of_ble_eq_true rfl, Nat.le_of_ble_eq_true rfl⟩ dJ0_indexOf_7cf53_1 ?_
  refine lv_if_eq (tgt := 23) S.1 S.2.1 dJ0_indexOf_7cf53_4 (by decide) (fun hc => ?_) (fun hc => ?_)
  · have hF := it_pos hc hF
    cases hF
  · have hF := it_neg hc hF
    refine lv_aload_n S.1 S.2.1 dJ0_indexOf_7cf53_7 rfl (lv_at hl 0 rfl) ?_
    refine vk_getf S.1 S.2.1 (hC.1.1 a0 (Nat.lt_of_not_le h2)).2.2.1 va_S.rf S.2.2.2.1 (S.2.2.2.2 _ m_288) (fun _ h => h) dJ0_indexOf_7cf53_8 ?_
    refine lv_iload_n S.1 S.2.1 dJ0_indexOf_7cf53_11 rfl (lv_at hl 1 rfl) ?_
    refine lv_iload_n S.1 S.2.1 dJ0_indexOf_7cf53_12 rfl (lv_at hl 2 rfl) ?_
    refine lv_aload_n S.1 S.2.1 dJ0_indexOf_7cf53_13 rfl (lv_at hl 0 rfl) ?_
    obtain ⟨u3, hu3, hF⟩ := bd_of hF
    refine kc_i (k := 0) (As := []) (rest := [.int a2, .int a1, .ref (kk (20 + a0))]) (cK_length l _ kk hu3) (fun U hU hw => hC.kept va_S.rf hU hw) (fun _ _ _ _ h => h.same) (vk_recv hC.1 (Nat.lt_of_not_le h2) va_S.rf) S (gd_V m_403 m_284 m_285 m_286 m_287) rfl rfl (by decide +kernel) ⟨Nat.le_of_ble_eq_true rfl, Nat.le_of_ble_eq_true rfl⟩ rfl hl.1 rfl (Nat.le_of_ble_eq_true rfl) ⟨Nat.le_of_ble_eq_true rfl, Nat.le_of_ble_eq_true rfl⟩ dJ0_indexOf_7cf53_14 ?_
    obtain ⟨u4, hu4, hF⟩ := bd_of hF
    refine kc_s (k := 4) (As := [.ref (kk (20 + a0)), .int a1, .int a2, .int u3]) (rest := []) (cK_indexOfL l _ kk hu4) (fun U hU hw => hC.kept va_S.rf hU hw) (fun _ _ _ _ h => h.same) S (gd_S m_404 m_405 m_305 m_406) rfl rfl (by decide +kernel) ⟨Nat.le_of_ble_eq_true rfl, Nat.le_of_ble_eq_true rfl⟩ rfl hl.1 rfl (Nat.le_of_ble_eq_true rfl) ⟨Nat.le_of_ble_eq_true rfl, Nat.le_of_ble_eq_true rfl⟩ dJ0_indexOf_7cf53_17 ?_
    refine lv_goto (tgt := 36) S.1 S.2.1 dJ0_indexOf_7cf53_20 (by decide) ?_
    obtain rfl := Option.some.inj hF
    exact rs_i S hr hlk rfl rfl dJ0_indexOf_7cf53_36
