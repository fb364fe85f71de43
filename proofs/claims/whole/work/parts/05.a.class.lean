
theorem kS0 {A : Nat → Prop} {kk : Nat → Nat} {s : State} (hC : KC A kk s) : vk_R RX9 102 "limit" (kk 0) s := hC.2.1 0 ("BookClub$TextReader", 102, "limit") rfl
theorem kS1 {A : Nat → Prop} {kk : Nat → Nat} {s : State} (hC : KC A kk s) : vk_R RX9 104 "late" (kk 1) s := hC.2.1 1 ("BookClub$TextReader", 104, "late") rfl
theorem kS2 {A : Nat → Prop} {kk : Nat → Nat} {s : State} (hC : KC A kk s) : vk_R RX9 106 "bonus" (kk 2) s := hC.2.1 2 ("BookClub$TextReader", 106, "bonus") rfl
theorem kS3 {A : Nat → Prop} {kk : Nat → Nat} {s : State} (hC : KC A kk s) : vk_R RX9 108 "gift" (kk 3) s := hC.2.1 3 ("BookClub$TextReader", 108, "gift") rfl
theorem kS4 {A : Nat → Prop} {kk : Nat → Nat} {s : State} (hC : KC A kk s) : vk_R RX9 110 "debt" (kk 4) s := hC.2.1 4 ("BookClub$TextReader", 110, "debt") rfl
theorem kS5 {A : Nat → Prop} {kk : Nat → Nat} {s : State} (hC : KC A kk s) : vk_R RX9 112 "dun" (kk 5) s := hC.2.1 5 ("BookClub$TextReader", 112, "dun") rfl
theorem kS6 {A : Nat → Prop} {kk : Nat → Nat} {s : State} (hC : KC A kk s) : vk_R RX9 114 "end" (kk 6) s := hC.2.1 6 ("BookClub$TextReader", 114, "end") rfl
theorem kS7 {A : Nat → Prop} {kk : Nat → Nat} {s : State} (hC : KC A kk s) : vk_R RX9 116 "part" (kk 7) s := hC.2.1 7 ("BookClub$TextReader", 116, "part") rfl
def fC_isWithin (a1 : Int32) (a2 : Int32) (a3 : Int32) : Option Int32 :=
  if a1 < a2 then
  some ((0 : Int32))
  else
  if a3 < a1 then
  some ((0 : Int32))
  else
  some ((1 : Int32))
set_option maxRecDepth 100000 in
set_option maxHeartbeats 4000000 in
theorem cC_isWithin (l : Launch) {a1 : Int32} {a2 : Int32} {a3 : Int32} {o : Int32} (hF : fC_isWithin a1 a2 a3 = some o) : Ms l yX10_isWithin cX10_isWithin 3 .boolean { frames := 0, cells := 0, slots := 0, locals := 0 } [.int a1, .int a2, .int a3] o := by
  refine Ms.of (own := RX10) rfl (by decide +kernel) (Nat.le_of_ble_eq_true rfl) ?_
  intro p e s m args below meth c ls S hr hlk hl
  have hl : lv_has ls 3 [(0, .int a1), (1, .int a2), (2, .int a3)] := hl
  rw [fC_isWithin] at hF
  refine lv_iload_n S.1 S.2.1 dX10_isWithin_0 rfl (lv_at hl 0 rfl) ?_
  refine lv_iload_n S.1 S.2.1 dX10_isWithin_1 rfl (lv_at hl 1 rfl) ?_
  refine lv_icmp_lt (tgt := 14) S.1 S.2.1 dX10_isWithin_2 (by decide) (fun hc => ?_) (fun hc => ?_)
  · have hF := it_pos hc hF
    refine lv_iconst (v := (0 : Int32)) S.1 S.2.1 dX10_isWithin_14 (by decide) ?_
    obtain rfl := Option.some.inj hF
    exact rs_i S hr hlk rfl rfl dX10_isWithin_15
  · have hF := it_neg hc hF
    refine lv_iload_n S.1 S.2.1 dX10_isWithin_5 rfl (lv_at hl 0 rfl) ?_
    refine lv_iload_n S.1 S.2.1 dX10_isWithin_6 rfl (lv_at hl 2 rfl) ?_
    refine lv_icmp_gt (tgt := 14) S.1 S.2.1 dX10_isWithin_7 (by decide) (fun hc => ?_) (fun hc => ?_)
    · have hF := it_pos hc hF
      refine lv_iconst (v := (0 : Int32)) S.1 S.2.1 dX10_isWithin_14 (by decide) ?_
      obtain rfl := Option.some.inj hF
      exact rs_i S hr hlk rfl rfl dX10_isWithin_15
    · have hF := it_neg hc hF
      refine lv_iconst (v := (1 : Int32)) S.1 S.2.1 dX10_isWithin_10 (by decide) ?_
      refine lv_goto (tgt := 15) S.1 S.2.1 dX10_isWithin_11 (by decide) ?_
      obtain rfl := Option.some.inj hF
      exact rs_i S hr hlk rfl rfl dX10_isWithin_15
def fC_Ch_isKind (a1 : Int32) : Option Int32 :=
  Option.bind (fC_isWithin a1 ((0 : Int32)) ((3 : Int32))) (fun u1 =>
  if u1 = 0 ∨ u1 = 1 then some u1 else none)
set_option maxRecDepth 100000 in
set_option maxHeartbeats 4000000 in
theorem cC_Ch_isKind (l : Launch) {a1 : Int32} {o : Int32} (hF : fC_Ch_isKind a1 = some o) : Mp l yX0_isKind cX0_isKind 1 .boolean { frames := 1, cells := 0, slots := 0, locals := 22 } [.int a1] NW o := by
  refine Mp.of (own := RX0) rfl (by decide +kernel) (Nat.le_of_ble_eq_true rfl) ?_
  intro p e s m args below meth c ls S hr hlk hN hl
  have hl : lv_has ls 1 [(0, .int a1)] := hl
  rw [fC_Ch_isKind] at hF
  refine lv_iload_n S.1 S.2.1 dX0_isKind_0 rfl (lv_at hl 0 rfl) ?_
  refine lv_iconst (v := (0 : Int32)) S.1 S.2.1 dX0_isKind_1 (by decide) ?_
  refine lv_iconst (v := (3 : Int32)) S.1 S.2.1 dX0_isKind_2 (by decide) ?_
  obtain ⟨u1, hu1, hF⟩ := bd_of hF
  refine sc_iN (k := 3) (As := [.int a1, .int ((0 : Int32)), .int ((3 : Int32))]) (rest := []) (cC_isWithin l hu1) S hN nw_24 m_242 m_2 m_243 rfl rfl (by decide +kernel) ⟨Nat.le_of_ble_eq_true rfl, Nat.le_of_ble_eq_true rfl⟩ rfl hl.1 rfl (Nat.le_of_ble_eq_true rfl) ⟨Nat.le_of_ble_eq_true rfl, Nat.le_of_ble_eq_true rfl⟩ dX0_isKind_3 ?_
  obtain ⟨hb, hF⟩ := gt_of hF
  obtain rfl := Option.some.inj hF
  exact rs_i S hr hlk (bool_nar hb) rfl dX0_isKind_6
def fC_Ch_isGroup (a1 : Int32) (a2 : Int32) : Option Int32 :=
  Option.bind (fC_isWithin a1 ((1 : Int32)) ((8 : Int32))) (fun u1 =>
  if u1 = 0 then
  some ((0 : Int32))
  else
  if a2 < 0 then
  some ((0 : Int32))
  else
  if (a2 >>> (((2 : Int32) * a1) &&& 31)) = 0 then
  some ((1 : Int32))
  else
  some ((0 : Int32)))
set_option maxRecDepth 100000 in
set_option maxHeartbeats 4000000 in
theorem cC_Ch_isGroup (l : Launch) {a1 : Int32} {a2 : Int32} {o : Int32} (hF : fC_Ch_isGroup a1 a2 = some o) : Mp l yX0_isGroup cX0_isGroup 2 .boolean { frames := 1, cells := 0, slots := 0, locals := 22 } [.int a1, .int a2] NW o := by
  refine Mp.of (own := RX0) rfl (by decide +kernel) (Nat.le_of_ble_eq_true rfl) ?_
  intro p e s m args below meth c ls S hr hlk hN hl
  have hl : lv_has ls 2 [(0, .int a1), (1, .int a2)] := hl
  rw [fC_Ch_isGroup] at hF
  refine lv_iload_n S.1 S.2.1 dX0_isGroup_0 rfl (lv_at hl 0 rfl) ?_
  refine lv_iconst (v := (1 : Int32)) S.1 S.2.1 dX0_isGroup_1 (by decide) ?_
  refine lv_bipush (v := (8 : Int32)) S.1 S.2.1 dX0_isGroup_2 (by decide) ?_
  obtain ⟨u1, hu1, hF⟩ := bd_of hF
  refine sc_iN (k := 3) (As := [.int a1, .int ((1 : Int32)), .int ((8 : Int32))]) (rest := []) (cC_isWithin l hu1) S hN nw_24 m_242 m_2 m_243 rfl rfl (by decide +kernel) ⟨Nat.le_of_ble_eq_true rfl, Nat.le_of_ble_eq_true rfl⟩ rfl hl.1 rfl (Nat.le_of_ble_eq_true rfl) ⟨Nat.le_of_ble_eq_true rfl, Nat.le_of_ble_eq_true rfl⟩ dX0_isGroup_4 ?_
  refine lv_if_eq (tgt := 26) S.1 S.2.1 dX0_isGroup_7 (by decide) (fun hc => ?_) (fun hc => ?_)
  · have hF := it_pos hc hF
    refine lv_iconst (v := (0 : Int32)) S.1 S.2.1 dX0_isGroup_26 (by decide) ?_
    obtain rfl := Option.some.inj hF
    exact rs_i S hr hlk rfl rfl dX0_isGroup_27
  · have hF := it_neg hc hF
    refine lv_iload_n S.1 S.2.1 dX0_isGroup_10 rfl (lv_at hl 1 rfl) ?_
    refine lv_if_lt (tgt := 26) S.1 S.2.1 dX0_isGroup_11 (by decide) (fun hc => ?_) (fun hc => ?_)
    · have hF := it_pos hc hF
      refine lv_iconst (v := (0 : Int32)) S.1 S.2.1 dX0_isGroup_26 (by decide) ?_
      obtain rfl := Option.some.inj hF
      exact rs_i S hr hlk rfl rfl dX0_isGroup_27
    · have hF := it_neg hc hF
      refine lv_iload_n S.1 S.2.1 dX0_isGroup_14 rfl (lv_at hl 1 rfl) ?_
      refine lv_iconst (v := (2 : Int32)) S.1 S.2.1 dX0_isGroup_15 (by decide) ?_
      refine lv_iload_n S.1 S.2.1 dX0_isGroup_16 rfl (lv_at hl 0 rfl) ?_
      refine lv_imul S.1 S.2.1 dX0_isGroup_17 ?_
      refine lv_ishr S.1 S.2.1 dX0_isGroup_18 ?_
      refine lv_if_ne (tgt := 26) S.1 S.2.1 dX0_isGroup_19 (by decide) (fun hc => ?_) (fun hc => ?_)
      · have hF := it_neg hc hF
        refine lv_iconst (v := (0 : Int32)) S.1 S.2.1 dX0_isGroup_26 (by decide) ?_
        obtain rfl := Option.some.inj hF
        exact rs_i S hr hlk rfl rfl dX0_isGroup_27
      · have hF := it_pos hc hF
        refine lv_iconst (v := (1 : Int32)) S.1 S.2.1 dX0_isGroup_22 (by decide) ?_
        refine lv_goto (tgt := 27) S.1 S.2.1 dX0_isGroup_23 (by decide) ?_
        obtain rfl := Option.some.inj hF
        exact rs_i S hr hlk rfl rfl dX0_isGroup_27
def fC_Ch_isRate (a1 : Int32) : Option Int32 :=
  Option.bind (fC_isWithin a1 ((1 : Int32)) ((99 : Int32))) (fun u1 =>
  if u1 = 0 ∨ u1 = 1 then some u1 else none)
set_option maxRecDepth 100000 in
set_option maxHeartbeats 4000000 in
theorem cC_Ch_isRate (l : Launch) {a1 : Int32} {o : Int32} (hF : fC_Ch_isRate a1 = some o) : Mp l yX0_isRate cX0_isRate 1 .boolean { frames := 1, cells := 0, slots := 0, locals := 22 } [.int a1] NW o := by
  refine Mp.of (own := RX0) rfl (by decide +kernel) (Nat.le_of_ble_eq_true rfl) ?_
  intro p e s m args below meth c ls S hr hlk hN hl
  have hl : lv_has ls 1 [(0, .int a1)] := hl
  rw [fC_Ch_isRate] at hF
  refine lv_iload_n S.1 S.2.1 dX0_isRate_0 rfl (lv_at hl 0 rfl) ?_
  refine lv_iconst (v := (1 : Int32)) S.1 S.2.1 dX0_isRate_1 (by decide) ?_
  refine lv_bipush (v := (99 : Int32)) S.1 S.2.1 dX0_isRate_2 (by decide) ?_
  obtain ⟨u1, hu1, hF⟩ := bd_of hF
  refine sc_iN (k := 3) (As := [.int a1, .int ((1 : Int32)), .int ((99 : Int32))]) (rest := []) (cC_isWithin l hu1) S hN nw_24 m_242 m_2 m_243 rfl rfl (by decide +kernel) ⟨Nat.le_of_ble_eq_true rfl, Nat.le_of_ble_eq_true rfl⟩ rfl hl.1 rfl (Nat.le_of_ble_eq_true rfl) ⟨Nat.le_of_ble_eq_true rfl, Nat.le_of_ble_eq_true rfl⟩ dX0_isRate_4 ?_
  obtain ⟨hb, hF⟩ := gt_of hF
  obtain rfl := Option.some.inj hF
  exact rs_i S hr hlk (bool_nar hb) rfl dX0_isRate_7
def fC_Cl_isHouse (a1 : Int32) : Option Int32 :=
  Option.bind (fC_isWithin a1 ((0 : Int32)) ((9 : Int32))) (fun u1 =>
  if u1 = 0 ∨ u1 = 1 then some u1 else none)
set_option maxRecDepth 100000 in
set_option maxHeartbeats 4000000 in
theorem cC_Cl_isHouse (l : Launch) {a1 : Int32} {o : Int32} (hF : fC_Cl_isHouse a1 = some o) : Mp l yX2_isHouse cX2_isHouse 1 .boolean { frames := 1, cells := 0, slots := 0, locals := 22 } [.int a1] NW o := by
  refine Mp.of (own := RX2) rfl (by decide +kernel) (Nat.le_of_ble_eq_true rfl) ?_
  intro p e s m args below meth c ls S hr hlk hN hl
  have hl : lv_has ls 1 [(0, .int a1)] := hl
  rw [fC_Cl_isHouse] at hF
  refine lv_iload_n S.1 S.2.1 dX2_isHouse_0 rfl (lv_at hl 0 rfl) ?_
  refine lv_iconst (v := (0 : Int32)) S.1 S.2.1 dX2_isHouse_1 (by decide) ?_
  refine lv_bipush (v := (9 : Int32)) S.1 S.2.1 dX2_isHouse_2 (by decide) ?_
  obtain ⟨u1, hu1, hF⟩ := bd_of hF
  refine sc_iN (k := 3) (As := [.int a1, .int ((0 : Int32)), .int ((9 : Int32))]) (rest := []) (cC_isWithin l hu1) S hN nw_23 m_242 m_2 m_243 rfl rfl (by decide +kernel) ⟨Nat.le_of_ble_eq_true rfl, Nat.le_of_ble_eq_true rfl⟩ rfl hl.1 rfl (Nat.le_of_ble_eq_true rfl) ⟨Nat.le_of_ble_eq_true rfl, Nat.le_of_ble_eq_true rfl⟩ dX2_isHouse_4 ?_
  obtain ⟨hb, hF⟩ := gt_of hF
  obtain rfl := Option.some.inj hF
  exact rs_i S hr hlk (bool_nar hb) rfl dX2_isHouse_7
def fC_Ju_isBook (a1 : Int32) : Option Int32 :=
  Option.bind (fC_isWithin a1 ((0 : Int32)) ((19 : Int32))) (fun u1 =>
  if u1 = 0 ∨ u1 = 1 then some u1 else none)
set_option maxRecDepth 100000 in
set_option maxHeartbeats 4000000 in
theorem cC_Ju_isBook (l : Launch) {a1 : Int32} {o : Int32} (hF : fC_Ju_isBook a1 = some o) : Mp l yX4_isBook cX4_isBook 1 .boolean { frames := 1, cells := 0, slots := 0, locals := 22 } [.int a1] NW o := by
  refine Mp.of (own := RX4) rfl (by decide +kernel) (Nat.le_of_ble_eq_true rfl) ?_
  intro p e s m args below meth c ls S hr hlk hN hl
  have hl : lv_has ls 1 [(0, .int a1)] := hl
  rw [fC_Ju_isBook] at hF
  refine lv_iload_n S.1 S.2.1 dX4_isBook_0 rfl (lv_at hl 0 rfl) ?_
  refine lv_iconst (v := (0 : Int32)) S.1 S.2.1 dX4_isBook_1 (by decide) ?_
  refine lv_bipush (v := (19 : Int32)) S.1 S.2.1 dX4_isBook_2 (by decide) ?_
  obtain ⟨u1, hu1, hF⟩ := bd_of hF
  refine sc_iN (k := 3) (As := [.int a1, .int ((0 : Int32)), .int ((19 : Int32))]) (rest := []) (cC_isWithin l hu1) S hN nw_58 m_242 m_2 m_243 rfl rfl (by decide +kernel) ⟨Nat.le_of_ble_eq_true rfl, Nat.le_of_ble_eq_true rfl⟩ rfl hl.1 rfl (Nat.le_of_ble_eq_true rfl) ⟨Nat.le_of_ble_eq_true rfl, Nat.le_of_ble_eq_true rfl⟩ dX4_isBook_4 ?_
  obtain ⟨hb, hF⟩ := gt_of hF
  obtain rfl := Option.some.inj hF
  exact rs_i S hr hlk (bool_nar hb) rfl dX4_isBook_7
def fC_Ju_isPair (a1 : Int32) (a2 : Int32) : Option Int32 :=
  Option.bind (fC_isWithin a1 ((0 : Int32)) ((8 : Int32))) (fun u1 =>
  if u1 = 0 then
  some ((0 : Int32))
  else
  Option.bind (fC_Ju_isBook a2) (fun u2 =>
  if u2 = 0 then
  some ((0 : Int32))
  else
  some ((1 : Int32))))
set_option maxRecDepth 100000 in
set_option maxHeartbeats 4000000 in
theorem cC_Ju_isPair (l : Launch) {a1 : Int32} {a2 : Int32} {o : Int32} (hF : fC_Ju_isPair a1 a2 = some o) : Mp l yX4_isPair cX4_isPair 2 .boolean { frames := 2, cells := 0, slots := 0, locals := 42 } [.int a1, .int a2] NW o := by
  refine Mp.of (own := RX4) rfl (by decide +kernel) (Nat.le_of_ble_eq_true rfl) ?_
  intro p e s m args below meth c ls S hr hlk hN hl
  have hl : lv_has ls 2 [(0, .int a1), (1, .int a2)] := hl
  rw [fC_Ju_isPair] at hF
  refine lv_iload_n S.1 S.2.1 dX4_isPair_0 rfl (lv_at hl 0 rfl) ?_
  refine lv_iconst (v := (0 : Int32)) S.1 S.2.1 dX4_isPair_1 (by decide) ?_
  refine lv_bipush (v := (8 : Int32)) S.1 S.2.1 dX4_isPair_2 (by decide) ?_
  obtain ⟨u1, hu1, hF⟩ := bd_of hF
  refine sc_iN (k := 3) (As := [.int a1, .int ((0 : Int32)), .int ((8 : Int32))]) (rest := []) (cC_isWithin l hu1) S hN nw_58 m_242 m_2 m_243 rfl rfl (by decide +kernel) ⟨Nat.le_of_ble_eq_true rfl, Nat.le_of_ble_eq_true rfl⟩ rfl hl.1 rfl (Nat.le_of_ble_eq_true rfl) ⟨Nat.le_of_ble_eq_true rfl, Nat.le_of_ble_eq_true rfl⟩ dX4_isPair_4 ?_
  refine lv_if_eq (tgt := 21) S.1 S.2.1 dX4_isPair_7 (by decide) (fun hc => ?_) (fun hc => ?_)
  · have hF := it_pos hc hF
    refine lv_iconst (v := (0 : Int32)) S.1 S.2.1 dX4_isPair_21 (by decide) ?_
    obtain rfl := Option.some.inj hF
    exact rs_i S hr hlk rfl rfl dX4_isPair_22
  · have hF := it_neg hc hF
    refine lv_iload_n S.1 S.2.1 dX4_isPair_10 rfl (lv_at hl 1 rfl) ?_
    obtain ⟨u2, hu2, hF⟩ := bd_of hF
    refine kc_s (k := 1) (As := [.int a2]) (rest := []) (cC_Ju_isBook l hu2) (fun U hU hw => (hN).warm hw) (fun _ _ _ _ h => h.same) S (gd_S m_955 m_956 m_35 m_957) rfl rfl (by decide +kernel) ⟨Nat.le_of_ble_eq_true rfl, Nat.le_of_ble_eq_true rfl⟩ rfl hl.1 rfl (Nat.le_of_ble_eq_true rfl) ⟨Nat.le_of_ble_eq_true rfl, Nat.le_of_ble_eq_true rfl⟩ dX4_isPair_11 ?_
    refine lv_if_eq (tgt := 21) S.1 S.2.1 dX4_isPair_14 (by decide) (fun hc => ?_) (fun hc => ?_)
    · have hF := it_pos hc hF
      refine lv_iconst (v := (0 : Int32)) S.1 S.2.1 dX4_isPair_21 (by decide) ?_
      obtain rfl := Option.some.inj hF
      exact rs_i S hr hlk rfl rfl dX4_isPair_22
    · have hF := it_neg hc hF
      refine lv_iconst (v := (1 : Int32)) S.1 S.2.1 dX4_isPair_17 (by decide) ?_
      refine lv_goto (tgt := 22) S.1 S.2.1 dX4_isPair_18 (by decide) ?_
      obtain rfl := Option.some.inj hF
      exact rs_i S hr hlk rfl rfl dX4_isPair_22
def fCJu_placeOf (a1 : Int32) (a2 : Int32) : Option Int32 :=
  some (((a1 * (20 : Int32)) + a2))
set_option maxRecDepth 100000 in
set_option maxHeartbeats 4000000 in
theorem cCJu_placeOf (l : Launch) {a1 : Int32} {a2 : Int32} {o : Int32} (hF : fCJu_placeOf a1 a2 = some o) : Ms l yX4_placeOf cX4_placeOf 2 .int { frames := 0, cells := 0, slots := 0, locals := 0 } [.int a1, .int a2] o := by
  refine Ms.of (own := RX4) rfl (by decide +kernel) (Nat.le_of_ble_eq_true rfl) ?_
  intro p e s m args below meth c ls S hr hlk hl
  have hl : lv_has ls 2 [(0, .int a1), (1, .int a2)] := hl
  rw [fCJu_placeOf] at hF
  refine lv_iload_n S.1 S.2.1 dX4_placeOf_0 rfl (lv_at hl 0 rfl) ?_
  refine lv_bipush (v := (20 : Int32)) S.1 S.2.1 dX4_placeOf_1 (by decide) ?_
  refine lv_imul S.1 S.2.1 dX4_placeOf_3 ?_
  refine lv_iload_n S.1 S.2.1 dX4_placeOf_4 rfl (lv_at hl 1 rfl) ?_
  refine lv_iadd S.1 S.2.1 dX4_placeOf_5 ?_
  obtain rfl := Option.some.inj hF
  exact rs_i S hr hlk rfl rfl dX4_placeOf_6
def fC_fill21_L5 (l1 : Int32) (l3 : Int32) : Nat → Int32 → SC → Option (SC)
  | 0, _, _ => none
  | n + 1, x2, σ =>
    if l3 ≤ x2 then
    some ((σ))
    else
    if x2 < 0 ∨ 11 ≤ (x2).toNatClampNeg then none else
    fC_fill21_L5 l1 l3 n ((x2 + (1 : Int32))) (yf σ 9 (x2).toNatClampNeg l1)
def fC_fill21 (σ : SC) (a2 : Int32) : Option (SC) :=
  Option.bind (fC_fill21_L5 a2 ((11 : Int32)) 1000 ((0 : Int32)) σ) (fun u1 =>
  some u1)
set_option maxRecDepth 100000 in
set_option maxHeartbeats 4000000 in
theorem cC_fill21 (l : Launch) (D : va_G) (ad : Nat → Nat) (cA : Nat → ClassId) (kk : Nat → Nat) (A : Nat → Prop) (aM aC aE : Nat → Nat) (X : va_W) {σ : SC} {a2 : Int32} {o : SC} (hF : fC_fill21 σ a2 = some o) : Mv l yJ7_fill_53178 cJ7_fill_53178 4 { frames := 0, cells := 0, slots := 0, locals := 0 } [.ref (ad 21), .int a2] (CP D ad cA kk A aM aC aE X σ) (CP D ad cA kk A aM aC aE X o) A := by
  refine Mv.of (own := RJ7) rfl (by decide +kernel) (Nat.le_of_ble_eq_true rfl) ?_
  intro p e s m args below meth c ls S hr hlk hP hl _
  have hW := CW.start hP
  have hl : lv_has ls 4 [(0, .ref (ad 21)), (1, .int a2)] := hl
  rw [fC_fill21] at hF
  refine lv_iconst (v := (0 : Int32)) S.1 S.2.1 dJ7_fill_53178_0 (by decide) ?_
  refine lv_istore_n (lv' := [(2, .int ((0 : Int32))), (0, .ref (ad 21)), (1, .int a2)]) S.1 S.2.1 dJ7_fill_53178_1 rfl hl (by decide) rfl (fun ls hl => ?_)
  refine lv_aload_n S.1 S.2.1 dJ7_fill_53178_2 rfl (lv_at hl 1 rfl) ?_
  refine xal_21 S hW dJ7_fill_53178_3 ?_
  refine lv_istore_n (lv' := [(3, .int ((11 : Int32))), (2, .int ((0 : Int32))), (0, .ref (ad 21)), (1, .int a2)]) S.1 S.2.1 dJ7_fill_53178_4 rfl hl (by decide) rfl (fun ls hl => ?_)
  obtain ⟨u1, hX, hF⟩ := bd_of hF
  refine jn1 (fun H locs ls => lv_has ls 4 [] ∧ CW D ad cA kk A aM aC aE X u1 s H locs) 20 [] (fun H locs ls hJ => ?_) (fun Ju1 => ?_)
  · obtain ⟨hl, hW⟩ := hJ
    obtain rfl := Option.some.inj hF
    exact xr_v S hr hlk hW dJ7_fill_53178_20
  · refine lpW (fun (xu1 : Int32 × SC) H locs ls => lv_has ls 4 [(0, .ref (ad 21)), (1, .int a2), (2, .int xu1.1), (3, .int ((11 : Int32)))] ∧ CW D ad cA kk A aM aC aE X xu1.2 s H locs) 5 (fun n xu1 => fC_fill21_L5 a2 ((11 : Int32)) n xu1.1 xu1.2) u1 (fun _ => rfl) (fun n xu1 ihu1 hF H locs ls hJ => ?_) 1000 ((0 : Int32), σ) hX _ _ _ ⟨lv_sub hl [2, 3, 1, 0] rfl, hW⟩
    obtain ⟨hl, hW⟩ := hJ
    have hF : fC_fill21_L5 a2 ((11 : Int32)) (n + 1) xu1.1 xu1.2 = some u1 := hF
    rw [fC_fill21_L5] at hF
    refine lv_iload_n S.1 S.2.1 dJ7_fill_53178_5 rfl (lv_at hl 2 rfl) ?_
    refine lv_iload_n S.1 S.2.1 dJ7_fill_53178_6 rfl (lv_at hl 3 rfl) ?_
    refine lv_icmp_ge (tgt := 20) S.1 S.2.1 dJ7_fill_53178_7 (by decide) (fun hc => ?_) (fun hc => ?_)
    · have hF := it_pos hc hF
      obtain rfl := Option.some.inj hF
      exact Ju1 _ _ _ ⟨lv_sub hl [] rfl, hW⟩
    · have hF := it_neg hc hF
      refine lv_aload_n S.1 S.2.1 dJ7_fill_53178_10 rfl (lv_at hl 0 rfl) ?_
      refine lv_iload_n S.1 S.2.1 dJ7_fill_53178_11 rfl (lv_at hl 2 rfl) ?_
      refine lv_iload_n S.1 S.2.1 dJ7_fill_53178_12 rfl (lv_at hl 1 rfl) ?_
      obtain ⟨h3, hF⟩ := gd_of hF
      refine xs_21 S hW h3 dJ7_fill_53178_13 (fun H locs hW => ?_)
      refine lv_iinc (v := (xu1.1 + (1 : Int32))) (lv' := [(2, .int ((xu1.1 + (1 : Int32)))), (0, .ref (ad 21)), (1, .int a2), (3, .int ((11 : Int32)))]) S.1 S.2.1 dJ7_fill_53178_14 hl (k := 2) rfl rfl (by decide) rfl (fun ls hl => ?_)
      refine lv_goto (tgt := 5) S.1 S.2.1 dJ7_fill_53178_17 (by decide) ?_
      exact ihu1 ((xu1.1 + (1 : Int32)), yf xu1.2 9 (xu1.1).toNatClampNeg a2) hF _ _ _ ⟨lv_sub hl [1, 2, 0, 3] rfl, hW⟩
def fC_fill17_L6 (l1 : Int64) (l4 : Int32) : Nat → Int32 → SC → Option (SC)
  | 0, _, _ => none
  | n + 1, x3, σ =>
    if l4 ≤ x3 then
    some ((σ))
    else
    if x3 < 0 ∨ 9 ≤ (x3).toNatClampNeg then none else
    fC_fill17_L6 l1 l4 n ((x3 + (1 : Int32))) (yg σ (x3).toNatClampNeg l1)
def fC_fill17 (σ : SC) (a2 : Int64) : Option (SC) :=
  Option.bind (fC_fill17_L6 a2 ((9 : Int32)) 1000 ((0 : Int32)) σ) (fun u1 =>
  some u1)
set_option maxRecDepth 100000 in
set_option maxHeartbeats 4000000 in
theorem cC_fill17 (l : Launch) (D : va_G) (ad : Nat → Nat) (cA : Nat → ClassId) (kk : Nat → Nat) (A : Nat → Prop) (aM aC aE : Nat → Nat) (X : va_W) {σ : SC} {a2 : Int64} {o : SC} (hF : fC_fill17 σ a2 = some o) : Mv l yJ7_fill_d0a16 cJ7_fill_d0a16 5 { frames := 0, cells := 0, slots := 0, locals := 0 } [.ref (ad 17), .long a2] (CP D ad cA kk A aM aC aE X σ) (CP D ad cA kk A aM aC aE X o) A := by
  refine Mv.of (own := RJ7) rfl (by decide +kernel) (Nat.le_of_ble_eq_true rfl) ?_
  intro p e s m args below meth c ls S hr hlk hP hl _
  have hW := CW.start hP
  have hl : lv_has ls 5 [(0, .ref (ad 17)), (1, .long a2)] := hl
  rw [fC_fill17] at hF
  refine lv_iconst (v := (0 : Int32)) S.1 S.2.1 dJ7_fill_d0a16_0 (by decide) ?_
  refine lv_istore_n (lv' := [(3, .int ((0 : Int32))), (0, .ref (ad 17)), (1, .long a2)]) S.1 S.2.1 dJ7_fill_d0a16_1 rfl hl (by decide) rfl (fun ls hl => ?_)
  refine lv_aload_n S.1 S.2.1 dJ7_fill_d0a16_2 rfl (lv_at hl 1 rfl) ?_
  refine xal_17 S hW dJ7_fill_d0a16_3 ?_
  refine lv_istore (lv' := [(4, .int ((9 : Int32))), (3, .int ((0 : Int32))), (0, .ref (ad 17)), (1, .long a2)]) S.1 S.2.1 dJ7_fill_d0a16_4 hl (by decide) rfl (fun ls hl => ?_)
  obtain ⟨u1, hX, hF⟩ := bd_of hF
  refine jn1 (fun H locs ls => lv_has ls 5 [] ∧ CW D ad cA kk A aM aC aE X u1 s H locs) 22 [] (fun H locs ls hJ => ?_) (fun Ju1 => ?_)
  · obtain ⟨hl, hW⟩ := hJ
    obtain rfl := Option.some.inj hF
    exact xr_v S hr hlk hW dJ7_fill_d0a16_22
  · refine lpW (fun (xu1 : Int32 × SC) H locs ls => lv_has ls 5 [(0, .ref (ad 17)), (1, .long a2), (3, .int xu1.1), (4, .int ((9 : Int32)))] ∧ CW D ad cA kk A aM aC aE X xu1.2 s H locs) 6 (fun n xu1 => fC_fill17_L6 a2 ((9 : Int32)) n xu1.1 xu1.2) u1 (fun _ => rfl) (fun n xu1 ihu1 hF H locs ls hJ => ?_) 1000 ((0 : Int32), σ) hX _ _ _ ⟨lv_sub hl [2, 3, 1, 0] rfl, hW⟩
    obtain ⟨hl, hW⟩ := hJ
    have hF : fC_fill17_L6 a2 ((9 : Int32)) (n + 1) xu1.1 xu1.2 = some u1 := hF
    rw [fC_fill17_L6] at hF
    refine lv_iload_n S.1 S.2.1 dJ7_fill_d0a16_6 rfl (lv_at hl 2 rfl) ?_
    refine lv_iload S.1 S.2.1 dJ7_fill_d0a16_7 (lv_at hl 3 rfl) ?_
    refine lv_icmp_ge (tgt := 22) S.1 S.2.1 dJ7_fill_d0a16_9 (by decide) (fun hc => ?_) (fun hc => ?_)
    · have hF := it_pos hc hF
      obtain rfl := Option.some.inj hF
      exact Ju1 _ _ _ ⟨lv_sub hl [] rfl, hW⟩
    · have hF := it_neg hc hF
      refine lv_aload_n S.1 S.2.1 dJ7_fill_d0a16_12 rfl (lv_at hl 0 rfl) ?_
      refine lv_iload_n S.1 S.2.1 dJ7_fill_d0a16_13 rfl (lv_at hl 2 rfl) ?_
      refine lv_lload_n S.1 S.2.1 dJ7_fill_d0a16_14 rfl (lv_at hl 1 rfl) ?_
      obtain ⟨h3, hF⟩ := gd_of hF
      refine xs_17 S hW h3 dJ7_fill_d0a16_15 (fun H locs hW => ?_)
      refine lv_iinc (v := (xu1.1 + (1 : Int32))) (lv' := [(3, .int ((xu1.1 + (1 : Int32)))), (0, .ref (ad 17)), (1, .long a2), (4, .int ((9 : Int32)))]) S.1 S.2.1 dJ7_fill_d0a16_16 hl (k := 2) rfl rfl (by decide) rfl (fun ls hl => ?_)
      refine lv_goto (tgt := 6) S.1 S.2.1 dJ7_fill_d0a16_19 (by decide) ?_
      exact ihu1 ((xu1.1 + (1 : Int32)), yg xu1.2 (xu1.1).toNatClampNeg a2) hF _ _ _ ⟨lv_sub hl [1, 2, 0, 3] rfl, hW⟩
def fC_Ta_hasRoomFor (σ : SC) (a1 : Int32) : Option (Int32) :=
  if (200 : Int32) < ((xz σ 0) + a1) then
  some ((0 : Int32))
  else
  some ((1 : Int32))
set_option maxRecDepth 100000 in
set_option maxHeartbeats 4000000 in
theorem cC_Ta_hasRoomFor (l : Launch) (D : va_G) (ad : Nat → Nat) (cA : Nat → ClassId) (kk : Nat → Nat) (A : Nat → Prop) (aM aC aE : Nat → Nat) (X : va_W) {σ : SC} {a1 : Int32} {o : Int32} (hF : fC_Ta_hasRoomFor σ a1 = some o) : Mi l yX8_hasRoomFor cX8_hasRoomFor 2 .boolean { frames := 0, cells := 0, slots := 0, locals := 0 } [.ref (ad 1), .int a1] (CP D ad cA kk A aM aC aE X σ) o (CP D ad cA kk A aM aC aE X σ) A := by
  refine Mi.of (own := RX8) rfl (by decide +kernel) (Nat.le_of_ble_eq_true rfl) ?_
  intro p e s m args below meth c ls S hr hlk hP hl
  have hW := CW.start hP
  have hl : lv_has ls 2 [(0, .ref (ad 1)), (1, .int a1)] := hl
  rw [fC_Ta_hasRoomFor] at hF
  refine lv_aload_n S.1 S.2.1 dX8_hasRoomFor_0 rfl (lv_at hl 0 rfl) ?_
  refine xg_X8_15 S hW dX8_hasRoomFor_1 ?_
  refine lv_iload_n S.1 S.2.1 dX8_hasRoomFor_4 rfl (lv_at hl 1 rfl) ?_
  refine lv_iadd S.1 S.2.1 dX8_hasRoomFor_5 ?_
  refine lv_sipush (v := (200 : Int32)) S.1 S.2.1 dX8_hasRoomFor_6 (by decide) ?_
  refine lv_icmp_gt (tgt := 16) S.1 S.2.1 dX8_hasRoomFor_9 (by decide) (fun hc => ?_) (fun hc => ?_)
  · have hF := it_pos hc hF
    refine lv_iconst (v := (0 : Int32)) S.1 S.2.1 dX8_hasRoomFor_16 (by decide) ?_
    obtain rfl := Option.some.inj hF
    exact xr_i S hr hlk hW rfl rfl dX8_hasRoomFor_17
  · have hF := it_neg hc hF
    refine lv_iconst (v := (1 : Int32)) S.1 S.2.1 dX8_hasRoomFor_12 (by decide) ?_
    refine lv_goto (tgt := 17) S.1 S.2.1 dX8_hasRoomFor_13 (by decide) ?_
    obtain rfl := Option.some.inj hF
    exact xr_i S hr hlk hW rfl rfl dX8_hasRoomFor_17
def fC_Ta_addByte (σ : SC) (a1 : Int32) : Option (SC) :=
  if (200 : Int32) ≤ (xz σ 0) then
  some σ
  else
  if (xz σ 0) < 0 ∨ 200 ≤ ((xz σ 0)).toNatClampNeg then none else
  some (yz (yf σ 0 ((xz σ 0)).toNatClampNeg a1) 0 (((xz (yf σ 0 ((xz σ 0)).toNatClampNeg a1) 0) + (1 : Int32))))
set_option maxRecDepth 100000 in
set_option maxHeartbeats 4000000 in
theorem cC_Ta_addByte (l : Launch) (D : va_G) (ad : Nat → Nat) (cA : Nat → ClassId) (kk : Nat → Nat) (A : Nat → Prop) (aM aC aE : Nat → Nat) (X : va_W) {σ : SC} {a1 : Int32} {o : SC} (hF : fC_Ta_addByte σ a1 = some o) : Mv l yX8_addByte cX8_addByte 2 { frames := 0, cells := 0, slots := 0, locals := 0 } [.ref (ad 1), .int a1] (CP D ad cA kk A aM aC aE X σ) (CP D ad cA kk A aM aC aE X o) A := by
  refine Mv.of (own := RX8) rfl (by decide +kernel) (Nat.le_of_ble_eq_true rfl) ?_
  intro p e s m args below meth c ls S hr hlk hP hl _
  have hW := CW.start hP
  have hl : lv_has ls 2 [(0, .ref (ad 1)), (1, .int a1)] := hl
  rw [fC_Ta_addByte] at hF
  refine lv_aload_n S.1 S.2.1 dX8_addByte_0 rfl (lv_at hl 0 rfl) ?_
  refine xg_X8_15 S hW dX8_addByte_1 ?_
  refine lv_sipush (v := (200 : Int32)) S.1 S.2.1 dX8_addByte_4 (by decide) ?_
  refine lv_icmp_ge (tgt := 30) S.1 S.2.1 dX8_addByte_7 (by decide) (fun hc => ?_) (fun hc => ?_)
  · have hF := it_pos hc hF
    obtain rfl := Option.some.inj hF
    exact xr_v S hr hlk hW dX8_addByte_30
  · have hF := it_neg hc hF
    refine lv_aload_n S.1 S.2.1 dX8_addByte_10 rfl (lv_at hl 0 rfl) ?_
    refine xg_X8_11 S hW dX8_addByte_11 ?_
    refine lv_aload_n S.1 S.2.1 dX8_addByte_14 rfl (lv_at hl 0 rfl) ?_
    refine xg_X8_15 S hW dX8_addByte_15 ?_
    refine lv_iload_n S.1 S.2.1 dX8_addByte_18 rfl (lv_at hl 1 rfl) ?_
    obtain ⟨h1, hF⟩ := gd_of hF
    refine xs_2 S hW h1 dX8_addByte_19 (fun H locs hW => ?_)
    refine lv_aload_n S.1 S.2.1 dX8_addByte_20 rfl (lv_at hl 0 rfl) ?_
    refine lv_dup S.1 S.2.1 dX8_addByte_21 rfl ?_
    refine xg_X8_15 S hW dX8_addByte_22 ?_
    refine lv_iconst (v := (1 : Int32)) S.1 S.2.1 dX8_addByte_25 (by decide) ?_
    refine lv_iadd S.1 S.2.1 dX8_addByte_26 ?_
    refine xp_X8_15 S hW dX8_addByte_27 (fun H locs hW => ?_)
    obtain rfl := Option.some.inj hF
    exact xr_v S hr hlk hW dX8_addByte_30
def fC_Ta_cutTo (σ : SC) (a1 : Int32) : Option (Int32 × SC) :=
  Option.bind (fC_isWithin a1 ((0 : Int32)) ((xz σ 0))) (fun u1 =>
  if u1 = 0 then
  some ((0 : Int32), σ)
  else
  some ((1 : Int32), yz σ 0 a1))
set_option maxRecDepth 100000 in
set_option maxHeartbeats 4000000 in
theorem cC_Ta_cutTo (l : Launch) (D : va_G) (ad : Nat → Nat) (cA : Nat → ClassId) (kk : Nat → Nat) (A : Nat → Prop) (aM aC aE : Nat → Nat) (X : va_W) {σ : SC} {a1 : Int32} {o : Int32 × SC} (hF : fC_Ta_cutTo σ a1 = some o) : Mi l yX8_cutTo cX8_cutTo 2 .boolean { frames := 1, cells := 0, slots := 0, locals := 22 } [.ref (ad 1), .int a1] (CP D ad cA kk A aM aC aE X σ) o.1 (CP D ad cA kk A aM aC aE X (o.2)) A := by
  refine Mi.of (own := RX8) rfl (by decide +kernel) (Nat.le_of_ble_eq_true rfl) ?_
  intro p e s m args below meth c ls S hr hlk hP hl
  have hW := CW.start hP
  have hl : lv_has ls 2 [(0, .ref (ad 1)), (1, .int a1)] := hl
  rw [fC_Ta_cutTo] at hF
  refine lv_iload_n S.1 S.2.1 dX8_cutTo_0 rfl (lv_at hl 1 rfl) ?_
  refine lv_iconst (v := (0 : Int32)) S.1 S.2.1 dX8_cutTo_1 (by decide) ?_
  refine lv_aload_n S.1 S.2.1 dX8_cutTo_2 rfl (lv_at hl 0 rfl) ?_
  refine xg_X8_15 S hW dX8_cutTo_3 ?_
  obtain ⟨u1, hu1, hF⟩ := bd_of hF
  refine sc_iN (k := 3) (As := [.int a1, .int ((0 : Int32)), .int ((xz σ 0))]) (rest := []) (cC_isWithin l hu1) S hW.2.1.2.2.1 nw_20 m_242 m_2 m_243 rfl rfl (by decide +kernel) ⟨Nat.le_of_ble_eq_true rfl, Nat.le_of_ble_eq_true rfl⟩ rfl hl.1 rfl (Nat.le_of_ble_eq_true rfl) ⟨Nat.le_of_ble_eq_true rfl, Nat.le_of_ble_eq_true rfl⟩ dX8_cutTo_6 ?_
  refine lv_if_ne (tgt := 14) S.1 S.2.1 dX8_cutTo_9 (by decide) (fun hc => ?_) (fun hc => ?_)
  · have hF := it_neg hc hF
    refine lv_aload_n S.1 S.2.1 dX8_cutTo_14 rfl (lv_at hl 0 rfl) ?_
    refine lv_iload_n S.1 S.2.1 dX8_cutTo_15 rfl (lv_at hl 1 rfl) ?_
    refine xp_X8_15 S hW dX8_cutTo_16 (fun H locs hW => ?_)
    refine lv_iconst (v := (1 : Int32)) S.1 S.2.1 dX8_cutTo_19 (by decide) ?_
    obtain rfl := Option.some.inj hF
    exact xr_i S hr hlk hW rfl rfl dX8_cutTo_20
  · have hF := it_pos hc hF
    refine lv_iconst (v := (0 : Int32)) S.1 S.2.1 dX8_cutTo_12 (by decide) ?_
    obtain rfl := Option.some.inj hF
    exact xr_i S hr hlk hW rfl rfl dX8_cutTo_13
def fC_Ta_byteAt (σ : SC) (a1 : Int32) : Option (Int32) :=
  if a1 < 0 then
  some ((-1 : Int32))
  else
  if (xz σ 0) ≤ a1 then
  some ((-1 : Int32))
  else
  if a1 < 0 ∨ 200 ≤ (a1).toNatClampNeg then none else
  some ((xf σ 0 (a1).toNatClampNeg))
set_option maxRecDepth 100000 in
set_option maxHeartbeats 4000000 in
theorem cC_Ta_byteAt (l : Launch) (D : va_G) (ad : Nat → Nat) (cA : Nat → ClassId) (kk : Nat → Nat) (A : Nat → Prop) (aM aC aE : Nat → Nat) (X : va_W) {σ : SC} {a1 : Int32} {o : Int32} (hF : fC_Ta_byteAt σ a1 = some o) : Mi l yX8_byteAt cX8_byteAt 2 .int { frames := 0, cells := 0, slots := 0, locals := 0 } [.ref (ad 1), .int a1] (CP D ad cA kk A aM aC aE X σ) o (CP D ad cA kk A aM aC aE X σ) A := by
  refine Mi.of (own := RX8) rfl (by decide +kernel) (Nat.le_of_ble_eq_true rfl) ?_
  intro p e s m args below meth c ls S hr hlk hP hl
  have hW := CW.start hP
  have hl : lv_has ls 2 [(0, .ref (ad 1)), (1, .int a1)] := hl
  rw [fC_Ta_byteAt] at hF
  refine lv_iload_n S.1 S.2.1 dX8_byteAt_0 rfl (lv_at hl 1 rfl) ?_
  refine lv_if_lt (tgt := 21) S.1 S.2.1 dX8_byteAt_1 (by decide) (fun hc => ?_) (fun hc => ?_)
  · have hF := it_pos hc hF
    refine lv_iconst (v := (-1 : Int32)) S.1 S.2.1 dX8_byteAt_21 (by decide) ?_
    obtain rfl := Option.some.inj hF
    exact xr_i S hr hlk hW rfl rfl dX8_byteAt_22
  · have hF := it_neg hc hF
    refine lv_iload_n S.1 S.2.1 dX8_byteAt_4 rfl (lv_at hl 1 rfl) ?_
    refine lv_aload_n S.1 S.2.1 dX8_byteAt_5 rfl (lv_at hl 0 rfl) ?_
    refine xg_X8_15 S hW dX8_byteAt_6 ?_
    refine lv_icmp_ge (tgt := 21) S.1 S.2.1 dX8_byteAt_9 (by decide) (fun hc => ?_) (fun hc => ?_)
    · have hF := it_pos hc hF
      refine lv_iconst (v := (-1 : Int32)) S.1 S.2.1 dX8_byteAt_21 (by decide) ?_
      obtain rfl := Option.some.inj hF
      exact xr_i S hr hlk hW rfl rfl dX8_byteAt_22
    · have hF := it_neg hc hF
      refine lv_aload_n S.1 S.2.1 dX8_byteAt_12 rfl (lv_at hl 0 rfl) ?_
      refine xg_X8_11 S hW dX8_byteAt_13 ?_
      refine lv_iload_n S.1 S.2.1 dX8_byteAt_16 rfl (lv_at hl 1 rfl) ?_
      obtain ⟨h1, hF⟩ := gd_of hF
      refine xl_2 S hW h1 dX8_byteAt_17 ?_
      refine lv_goto (tgt := 22) S.1 S.2.1 dX8_byteAt_18 (by decide) ?_
      obtain rfl := Option.some.inj hF
      exact xr_i S hr hlk hW rfl rfl dX8_byteAt_22
def fC_Tr_wordOf (σ : SC) (a1 : Int32) : Option (Nat) :=
  if a1 = (0 : Int32) then
  some 0
  else if a1 = (1 : Int32) then
  some 1
  else if a1 = (2 : Int32) then
  some 2
  else if a1 = (3 : Int32) then
  some 3
  else if a1 = (4 : Int32) then
  some 4
  else if a1 = (5 : Int32) then
  some 5
  else if a1 = (6 : Int32) then
  some 6
  else 
  some 7
set_option maxRecDepth 100000 in
set_option maxHeartbeats 4000000 in
theorem cC_Tr_wordOf (l : Launch) (D : va_G) (ad : Nat → Nat) (cA : Nat → ClassId) (kk : Nat → Nat) (A : Nat → Prop) (aM aC aE : Nat → Nat) (X : va_W) {σ : SC} {a1 : Int32} {o : Nat} (hF : fC_Tr_wordOf σ a1 = some o) : Mo l yX9_wordOf cX9_wordOf 1 (.object "java/lang/String") { frames := 0, cells := 0, slots := 0, locals := 0 } [.int a1] (CP D ad cA kk A aM aC aE X σ) (some (kk o)) (CP D ad cA kk A aM aC aE X σ) A := by
  refine Mo.of (own := RX9) rfl (by decide +kernel) (Nat.le_of_ble_eq_true rfl) ?_
  intro p e s m args below meth c ls S hr hlk hP hl
  have hW := CW.start hP
  have hl : lv_has ls 1 [(0, .int a1)] := hl
  rw [fC_Tr_wordOf] at hF
  refine lv_iload_n S.1 S.2.1 dX9_wordOf_0 rfl (lv_at hl 0 rfl) ?_
  rcases Classical.em (a1 = (0 : Int32)) with hc0 | hc0
  · have hF := it_pos hc0 hF
    refine lv_tableIn (off := 43) (tgt := 44) S.1 S.2.1 dX9_wordOf_1 (by rw [hc0]; decide) (by rw [hc0]; decide) (by rw [hc0]; decide) (by decide) ?_
    refine va_ldcS S.1 S.2.1 S.2.2.2.1 (kS0 hW.2.1.2.1) dX9_wordOf_44 ?_
    obtain rfl := Option.some.inj hF
    exact xr_o (v := some (kk 0)) S hr (Or.inl ⟨_, rfl⟩) hlk hW rfl dX9_wordOf_46
  · have hF := it_neg hc0 hF
    rcases Classical.em (a1 = (1 : Int32)) with hc1 | hc1
    · have hF := it_pos hc1 hF
      refine lv_tableIn (off := 46) (tgt := 47) S.1 S.2.1 dX9_wordOf_1 (by rw [hc1]; decide) (by rw [hc1]; decide) (by rw [hc1]; decide) (by decide) ?_
      refine va_ldcS S.1 S.2.1 S.2.2.2.1 (kS1 hW.2.1.2.1) dX9_wordOf_47 ?_
      obtain rfl := Option.some.inj hF
      exact xr_o (v := some (kk 1)) S hr (Or.inl ⟨_, rfl⟩) hlk hW rfl dX9_wordOf_49
    · have hF := it_neg hc1 hF
      rcases Classical.em (a1 = (2 : Int32)) with hc2 | hc2
      · have hF := it_pos hc2 hF
        refine lv_tableIn (off := 49) (tgt := 50) S.1 S.2.1 dX9_wordOf_1 (by rw [hc2]; decide) (by rw [hc2]; decide) (by rw [hc2]; decide) (by decide) ?_
        refine va_ldcS S.1 S.2.1 S.2.2.2.1 (kS2 hW.2.1.2.1) dX9_wordOf_50 ?_
        obtain rfl := Option.some.inj hF
        exact xr_o (v := some (kk 2)) S hr (Or.inl ⟨_, rfl⟩) hlk hW rfl dX9_wordOf_52
      · have hF := it_neg hc2 hF
        rcases Classical.em (a1 = (3 : Int32)) with hc3 | hc3
        · have hF := it_pos hc3 hF
          refine lv_tableIn (off := 52) (tgt := 53) S.1 S.2.1 dX9_wordOf_1 (by rw [hc3]; decide) (by rw [hc3]; decide) (by rw [hc3]; decide) (by decide) ?_
          refine va_ldcS S.1 S.2.1 S.2.2.2.1 (kS3 hW.2.1.2.1) dX9_wordOf_53 ?_
          obtain rfl := Option.some.inj hF
          exact xr_o (v := some (kk 3)) S hr (Or.inl ⟨_, rfl⟩) hlk hW rfl dX9_wordOf_55
        · have hF := it_neg hc3 hF
          rcases Classical.em (a1 = (4 : Int32)) with hc4 | hc4
          · have hF := it_pos hc4 hF
            refine lv_tableIn (off := 55) (tgt := 56) S.1 S.2.1 dX9_wordOf_1 (by rw [hc4]; decide) (by rw [hc4]; decide) (by rw [hc4]; decide) (by decide) ?_
            refine va_ldcS S.1 S.2.1 S.2.2.2.1 (kS4 hW.2.1.2.1) dX9_wordOf_56 ?_
            obtain rfl := Option.some.inj hF
            exact xr_o (v := some (kk 4)) S hr (Or.inl ⟨_, rfl⟩) hlk hW rfl dX9_wordOf_58
          · have hF := it_neg hc4 hF
            rcases Classical.em (a1 = (5 : Int32)) with hc5 | hc5
            · have hF := it_pos hc5 hF
              refine lv_tableIn (off := 58) (tgt := 59) S.1 S.2.1 dX9_wordOf_1 (by rw [hc5]; decide) (by rw [hc5]; decide) (by rw [hc5]; decide) (by decide) ?_
              refine va_ldcS S.1 S.2.1 S.2.2.2.1 (kS5 hW.2.1.2.1) dX9_wordOf_59 ?_
              obtain rfl := Option.some.inj hF
              exact xr_o (v := some (kk 5)) S hr (Or.inl ⟨_, rfl⟩) hlk hW rfl dX9_wordOf_61
            · have hF := it_neg hc5 hF
              rcases Classical.em (a1 = (6 : Int32)) with hc6 | hc6
              · have hF := it_pos hc6 hF
                refine lv_tableIn (off := 61) (tgt := 62) S.1 S.2.1 dX9_wordOf_1 (by rw [hc6]; decide) (by rw [hc6]; decide) (by rw [hc6]; decide) (by decide) ?_
                refine va_ldcS S.1 S.2.1 S.2.2.2.1 (kS6 hW.2.1.2.1) dX9_wordOf_62 ?_
                obtain rfl := Option.some.inj hF
                exact xr_o (v := some (kk 6)) S hr (Or.inl ⟨_, rfl⟩) hlk hW rfl dX9_wordOf_64
              · have hF := it_neg hc6 hF
                have n0 := sw_ne hc0
                have n1 := sw_ne hc1
                have n2 := sw_ne hc2
                have n3 := sw_ne hc3
                have n4 := sw_ne hc4
                have n5 := sw_ne hc5
                have n6 := sw_ne hc6
                refine lv_tableOut (tgt := 65) S.1 S.2.1 dX9_wordOf_1 (by simp only [tI_0, tI_1, tI_2, tI_3, tI_4, tI_5, tI_6] at n0 n1 n2 n3 n4 n5 n6; omega) (by decide) ?_
                refine va_ldcS S.1 S.2.1 S.2.2.2.1 (kS7 hW.2.1.2.1) dX9_wordOf_65 ?_
                obtain rfl := Option.some.inj hF
                exact xr_o (v := some (kk 7)) S hr (Or.inl ⟨_, rfl⟩) hlk hW rfl dX9_wordOf_67
def fC_Tr_standsBetween_L15 (σ : SC) (l1 : Nat) (l2 : Int32) : Nat → Int32 → Option ((Unit) ⊕ (Int32))
  | 0, _ => none
  | n + 1, x4 =>
    Option.bind (fK_length l1) (fun u1 =>
    if 9 ≤ l1 then none else
    if u1 ≤ x4 then
    some (Sum.inl (()))
    else
    Option.bind (fK_charAt l1 x4) (fun u3 =>
    Option.bind (fC_Ta_byteAt σ ((l2 + x4))) (fun u4 =>
    if u3 = u4 then
    fC_Tr_standsBetween_L15 σ l1 l2 n ((x4 + (1 : Int32)))
    else
    some (Sum.inr ((0 : Int32))))))
def fC_Tr_standsBetween (σ : SC) (a1 : Nat) (a2 : Int32) (a3 : Int32) : Option (Int32) :=
  Option.bind (fK_length a1) (fun u1 =>
  if 9 ≤ a1 then none else
  if u1 = (a3 - a2) then
  Option.bind (fC_Tr_standsBetween_L15 σ a1 a2 1000 ((0 : Int32))) (fun w9 => Sum.elim (fun u3 =>
  some ((1 : Int32))) (fun r => some r) w9)
  else
  some ((0 : Int32)))
set_option maxRecDepth 100000 in
set_option maxHeartbeats 4000000 in
theorem cC_Tr_standsBetween (l : Launch) (D : va_G) (ad : Nat → Nat) (cA : Nat → ClassId) (kk : Nat → Nat) (A : Nat → Prop) (aM aC aE : Nat → Nat) (X : va_W) {σ : SC} {a1 : Nat} {a2 : Int32} {a3 : Int32} {o : Int32} (hF : fC_Tr_standsBetween σ a1 a2 a3 = some o) : Mi l yX9_standsBetween cX9_standsBetween 5 .boolean { frames := 4, cells := 0, slots := 0, locals := 85 } [.ref (ad 7), .ref (kk a1), .int a2, .int a3] (CP D ad cA kk A aM aC aE X σ) o (CP D ad cA kk A aM aC aE X σ) A := by
  refine Mi.of (own := RX9) rfl (by decide +kernel) (Nat.le_of_ble_eq_true rfl) ?_
  intro p e s m args below meth c ls S hr hlk hP hl
  have hW := CW.start hP
  have hl : lv_has ls 5 [(0, .ref (ad 7)), (1, .ref (kk a1)), (2, .int a2), (3, .int a3)] := hl
  rw [fC_Tr_standsBetween] at hF
  refine lv_aload_n S.1 S.2.1 dX9_standsBetween_0 rfl (lv_at hl 1 rfl) ?_
  obtain ⟨u1, hu1, hF⟩ := bd_of hF
  obtain ⟨h2, hF⟩ := gd_of hF
  refine kc_i (k := 0) (As := []) (rest := []) (cK_length l _ kk hu1) (fun U hU hw => hW.2.1.2.1.kept hW.2.2.2 hU hw) (fun _ _ _ _ h => h.same) (vk_recv hW.2.1.2.1.1 (Nat.lt_of_not_le h2) hW.2.2.2) S (gd_V m_283 m_284 m_285 m_286 m_287) rfl rfl (by decide +kernel) ⟨Nat.le_of_ble_eq_true rfl, Nat.le_of_ble_eq_true rfl⟩ rfl hl.1 rfl (Nat.le_of_ble_eq_true rfl) ⟨Nat.le_of_ble_eq_true rfl, Nat.le_of_ble_eq_true rfl⟩ dX9_standsBetween_1 ?_
  refine lv_iload_n S.1 S.2.1 dX9_standsBetween_4 rfl (lv_at hl 3 rfl) ?_
  refine lv_iload_n S.1 S.2.1 dX9_standsBetween_5 rfl (lv_at hl 2 rfl) ?_
  refine lv_isub S.1 S.2.1 dX9_standsBetween_6 ?_
  refine lv_icmp_eq (tgt := 12) S.1 S.2.1 dX9_standsBetween_7 (by decide) (fun hc => ?_) (fun hc => ?_)
  · have hF := it_pos hc hF
    refine lv_iconst (v := (0 : Int32)) S.1 S.2.1 dX9_standsBetween_12 (by decide) ?_
    refine lv_istore (lv' := [(4, .int ((0 : Int32))), (0, .ref (ad 7)), (1, .ref (kk a1)), (2, .int a2), (3, .int a3)]) S.1 S.2.1 dX9_standsBetween_13 hl (by decide) rfl (fun ls hl => ?_)
    obtain ⟨w9, hX, hF⟩ := bd_of hF
    refine jn1 (fun H locs ls => ∃ u3, w9 = Sum.inl u3 ∧ lv_has ls 5 [] ∧ CW D ad cA kk A aM aC aE X σ s H locs) 52 [] (fun H locs ls hJ => ?_) (fun Ju3 => ?_)
    · obtain ⟨u3, rfl, hl, hW⟩ := hJ
      rw [Sum.elim_inl] at hF
      refine lv_iconst (v := (1 : Int32)) S.1 S.2.1 dX9_standsBetween_52 (by decide) ?_
      obtain rfl := Option.some.inj hF
      exact xr_i S hr hlk hW rfl rfl dX9_standsBetween_53
    · have hF0 := hF
      clear hF
      refine lpW (fun (xu3 : Int32) H locs ls => lv_has ls 5 [(0, .ref (ad 7)), (1, .ref (kk a1)), (2, .int a2), (4, .int xu3)] ∧ CW D ad cA kk A aM aC aE X σ s H locs) 15 (fun n xu3 => fC_Tr_standsBetween_L15 σ a1 a2 n xu3) w9 (fun _ => rfl) (fun n xu3 ihu3 hF H locs ls hJ => ?_) 1000 ((0 : Int32)) hX _ _ _ ⟨lv_sub hl [1, 2, 3, 0] rfl, hW⟩
      obtain ⟨hl, hW⟩ := hJ
      have hF : fC_Tr_standsBetween_L15 σ a1 a2 (n + 1) xu3 = some w9 := hF
      rw [fC_Tr_standsBetween_L15] at hF
      refine lv_iload S.1 S.2.1 dX9_standsBetween_15 (lv_at hl 3 rfl) ?_
      refine lv_aload_n S.1 S.2.1 dX9_standsBetween_17 rfl (lv_at hl 1 rfl) ?_
      obtain ⟨u5, hu5, hF⟩ := bd_of hF
      obtain ⟨h6, hF⟩ := gd_of hF
      refine kc_i (k := 0) (As := []) (rest := [.int xu3]) (cK_length l _ kk hu5) (fun U hU hw => hW.2.1.2.1.kept hW.2.2.2 hU hw) (fun _ _ _ _ h => h.same) (vk_recv hW.2.1.2.1.1 (Nat.lt_of_not_le h6) hW.2.2.2) S (gd_V m_283 m_284 m_285 m_286 m_287) rfl rfl (by decide +kernel) ⟨Nat.le_of_ble_eq_true rfl, Nat.le_of_ble_eq_true rfl⟩ rfl hl.1 rfl (Nat.le_of_ble_eq_true rfl) ⟨Nat.le_of_ble_eq_true rfl, Nat.le_of_ble_eq_true rfl⟩ dX9_standsBetween_18 ?_
      refine lv_icmp_ge (tgt := 52) S.1 S.2.1 dX9_standsBetween_21 (by decide) (fun hc => ?_) (fun hc => ?_)
      · have hF := it_pos hc hF
        obtain rfl := Option.some.inj hF
        exact Ju3 _ _ _ ⟨_, rfl, lv_sub hl [] rfl, hW⟩
      · have hF := it_neg hc hF
        refine lv_aload_n S.1 S.2.1 dX9_standsBetween_24 rfl (lv_at hl 1 rfl) ?_
        refine lv_iload S.1 S.2.1 dX9_standsBetween_25 (lv_at hl 3 rfl) ?_
        obtain ⟨u7, hu7, hF⟩ := bd_of hF
        refine kc_i (k := 1) (As := [.int xu3]) (rest := []) (cK_charAt l _ kk hu7) (fun U hU hw => hW.2.1.2.1.kept hW.2.2.2 hU hw) (fun _ _ _ _ h => h.same) (vk_recv hW.2.1.2.1.1 (Nat.lt_of_not_le h6) hW.2.2.2) S (gd_V m_295 m_296 m_297 m_286 m_298) rfl rfl (by decide +kernel) ⟨Nat.le_of_ble_eq_true rfl, Nat.le_of_ble_eq_true rfl⟩ rfl hl.1 rfl (Nat.le_of_ble_eq_true rfl) ⟨Nat.le_of_ble_eq_true rfl, Nat.le_of_ble_eq_true rfl⟩ dX9_standsBetween_27 ?_
        refine lv_aload_n S.1 S.2.1 dX9_standsBetween_30 rfl (lv_at hl 0 rfl) ?_
        refine xg_X9_9 S hW dX9_standsBetween_31 ?_
        refine lv_iload_n S.1 S.2.1 dX9_standsBetween_34 rfl (lv_at hl 2 rfl) ?_
        refine lv_iload S.1 S.2.1 dX9_standsBetween_35 (lv_at hl 3 rfl) ?_
        refine lv_iadd S.1 S.2.1 dX9_standsBetween_37 ?_
        obtain ⟨u8, hu8, hF⟩ := bd_of hF
        refine xc_i (k := 1) (As := [.int ((a2 + xu3))]) (rest := [.int u7]) (cC_Ta_byteAt l D ad cA kk A aM aC aE X hu8) (xr_RX8 hW) S hW (gd_V m_268 m_269 m_270 m_15 m_271) (by decide +kernel) ⟨Nat.le_of_ble_eq_true rfl, Nat.le_of_ble_eq_true rfl⟩ rfl hl.1 rfl (Nat.le_of_ble_eq_true rfl) ⟨Nat.le_of_ble_eq_true rfl, Nat.le_of_ble_eq_true rfl⟩ dX9_standsBetween_38 (fun H locs hW => ?_)
        refine lv_icmp_eq (tgt := 46) S.1 S.2.1 dX9_standsBetween_41 (by decide) (fun hc => ?_) (fun hc => ?_)
        · have hF := it_pos hc hF
          refine lv_iinc (v := (xu3 + (1 : Int32))) (lv' := [(4, .int ((xu3 + (1 : Int32)))), (0, .ref (ad 7)), (1, .ref (kk a1)), (2, .int a2)]) S.1 S.2.1 dX9_standsBetween_46 hl (k := 3) rfl rfl (by decide) rfl (fun ls hl => ?_)
          refine lv_goto (tgt := 15) S.1 S.2.1 dX9_standsBetween_49 (by decide) ?_
          exact ihu3 ((xu3 + (1 : Int32))) hF _ _ _ ⟨lv_sub hl [1, 2, 3, 0] rfl, hW⟩
        · have hF := it_neg hc hF
          refine lv_iconst (v := (0 : Int32)) S.1 S.2.1 dX9_standsBetween_44 (by decide) ?_
          obtain rfl := Option.some.inj hF
          have hF0 : some ((0 : Int32)) = some o := hF0
          obtain rfl := Option.some.inj hF0
          exact xr_i S hr hlk hW rfl rfl dX9_standsBetween_45
  · have hF := it_neg hc hF
    refine lv_iconst (v := (0 : Int32)) S.1 S.2.1 dX9_standsBetween_10 (by decide) ?_
    obtain rfl := Option.some.inj hF
    exact xr_i S hr hlk hW rfl rfl dX9_standsBetween_11
def fC_Tr_fail (σ : SC) (a1 : Int32) (a2 : Int32) : Option (Int32 × SC) :=
  some ((0 : Int32), yz (yz σ 4 a1) 5 a2)
set_option maxRecDepth 100000 in
set_option maxHeartbeats 4000000 in
theorem cC_Tr_fail (l : Launch) (D : va_G) (ad : Nat → Nat) (cA : Nat → ClassId) (kk : Nat → Nat) (A : Nat → Prop) (aM aC aE : Nat → Nat) (X : va_W) {σ : SC} {a1 : Int32} {a2 : Int32} {o : Int32 × SC} (hF : fC_Tr_fail σ a1 a2 = some o) : Mi l yX9_fail cX9_fail 3 .boolean { frames := 0, cells := 0, slots := 0, locals := 0 } [.ref (ad 7), .int a1, .int a2] (CP D ad cA kk A aM aC aE X σ) o.1 (CP D ad cA kk A aM aC aE X (o.2)) A := by
  refine Mi.of (own := RX9) rfl (by decide +kernel) (Nat.le_of_ble_eq_true rfl) ?_
  intro p e s m args below meth c ls S hr hlk hP hl
  have hW := CW.start hP
  have hl : lv_has ls 3 [(0, .ref (ad 7)), (1, .int a1), (2, .int a2)] := hl
  rw [fC_Tr_fail] at hF
  refine lv_aload_n S.1 S.2.1 dX9_fail_0 rfl (lv_at hl 0 rfl) ?_
  refine lv_iload_n S.1 S.2.1 dX9_fail_1 rfl (lv_at hl 1 rfl) ?_
  refine xp_X9_23 S hW dX9_fail_2 (fun H locs hW => ?_)
  refine lv_aload_n S.1 S.2.1 dX9_fail_5 rfl (lv_at hl 0 rfl) ?_
  refine lv_iload_n S.1 S.2.1 dX9_fail_6 rfl (lv_at hl 2 rfl) ?_
  refine xp_X9_26 S hW dX9_fail_7 (fun H locs hW => ?_)
  refine lv_iconst (v := (0 : Int32)) S.1 S.2.1 dX9_fail_10 (by decide) ?_
  obtain rfl := Option.some.inj hF
  exact xr_i S hr hlk hW rfl rfl dX9_fail_11
def fC_Rb_isFull (σ : SC) : Option (Int32) :=
  if ((xz σ 1) + (xz σ 2)) < (60 : Int32) then
  some ((0 : Int32))
  else
  some ((1 : Int32))
set_option maxRecDepth 100000 in
set_option maxHeartbeats 4000000 in
theorem cC_Rb_isFull (l : Launch) (D : va_G) (ad : Nat → Nat) (cA : Nat → ClassId) (kk : Nat → Nat) (A : Nat → Prop) (aM aC aE : Nat → Nat) (X : va_W) {σ : SC} {o : Int32} (hF : fC_Rb_isFull σ = some o) : Mi l yX7_isFull cX7_isFull 1 .boolean { frames := 0, cells := 0, slots := 0, locals := 0 } [.ref (ad 3)] (CP D ad cA kk A aM aC aE X σ) o (CP D ad cA kk A aM aC aE X σ) A := by
  refine Mi.of (own := RX7) rfl (by decide +kernel) (Nat.le_of_ble_eq_true rfl) ?_
  intro p e s m args below meth c ls S hr hlk hP hl
  have hW := CW.start hP
  have hl : lv_has ls 1 [(0, .ref (ad 3))] := hl
  rw [fC_Rb_isFull] at hF
  refine lv_aload_n S.1 S.2.1 dX7_isFull_0 rfl (lv_at hl 0 rfl) ?_
  refine xg_X7_19 S hW dX7_isFull_1 ?_
  refine lv_aload_n S.1 S.2.1 dX7_isFull_4 rfl (lv_at hl 0 rfl) ?_
  refine xg_X7_23 S hW dX7_isFull_5 ?_
  refine lv_iadd S.1 S.2.1 dX7_isFull_8 ?_
  refine lv_bipush (v := (60 : Int32)) S.1 S.2.1 dX7_isFull_9 (by decide) ?_
  refine lv_icmp_lt (tgt := 18) S.1 S.2.1 dX7_isFull_11 (by decide) (fun hc => ?_) (fun hc => ?_)
  · have hF := it_pos hc hF
    refine lv_iconst (v := (0 : Int32)) S.1 S.2.1 dX7_isFull_18 (by decide) ?_
    obtain rfl := Option.some.inj hF
    exact xr_i S hr hlk hW rfl rfl dX7_isFull_19
  · have hF := it_neg hc hF
    refine lv_iconst (v := (1 : Int32)) S.1 S.2.1 dX7_isFull_14 (by decide) ?_
    refine lv_goto (tgt := 19) S.1 S.2.1 dX7_isFull_15 (by decide) ?_
    obtain rfl := Option.some.inj hF
    exact xr_i S hr hlk hW rfl rfl dX7_isFull_19
def fC_Rb_propose (σ : SC) (a1 : Int32) (a2 : Int32) (a3 : Int32) : Option (SC) :=
  Option.bind (fC_Rb_isFull σ) (fun u1 =>
  if u1 = 0 then
  if ((xz σ 1) + (xz σ 2)) < 0 ∨ 60 ≤ (((xz σ 1) + (xz σ 2))).toNatClampNeg then none else
  some (yz (yf (yf (yf σ 1 (((xz σ 1) + (xz σ 2))).toNatClampNeg a1) 2 (((xz σ 1) + (xz σ 2))).toNatClampNeg a2) 3 (((xz σ 1) + (xz σ 2))).toNatClampNeg a3) 2 (((xz (yf (yf (yf σ 1 (((xz σ 1) + (xz σ 2))).toNatClampNeg a1) 2 (((xz σ 1) + (xz σ 2))).toNatClampNeg a2) 3 (((xz σ 1) + (xz σ 2))).toNatClampNeg a3) 2) + (1 : Int32))))
  else
  some σ)
set_option maxRecDepth 100000 in
set_option maxHeartbeats 4000000 in
theorem cC_Rb_propose (l : Launch) (D : va_G) (ad : Nat → Nat) (cA : Nat → ClassId) (kk : Nat → Nat) (A : Nat → Prop) (aM aC aE : Nat → Nat) (X : va_W) {σ : SC} {a1 : Int32} {a2 : Int32} {a3 : Int32} {o : SC} (hF : fC_Rb_propose σ a1 a2 a3 = some o) : Mv l yX7_propose cX7_propose 5 { frames := 1, cells := 0, slots := 0, locals := 20 } [.ref (ad 3), .int a1, .int a2, .int a3] (CP D ad cA kk A aM aC aE X σ) (CP D ad cA kk A aM aC aE X o) A := by
  refine Mv.of (own := RX7) rfl (by decide +kernel) (Nat.le_of_ble_eq_true rfl) ?_
  intro p e s m args below meth c ls S hr hlk hP hl _
  have hW := CW.start hP
  have hl : lv_has ls 5 [(0, .ref (ad 3)), (1, .int a1), (2, .int a2), (3, .int a3)] := hl
  rw [fC_Rb_propose] at hF
  refine lv_aload_n S.1 S.2.1 dX7_propose_0 rfl (lv_at hl 0 rfl) ?_
  obtain ⟨u1, hu1, hF⟩ := bd_of hF
  refine xc_i (k := 0) (As := []) (rest := []) (cC_Rb_isFull l D ad cA kk A aM aC aE X hu1) (xr_RX7 hW) S hW (gd_V m_356 m_337 m_338 m_19 m_339) (by decide +kernel) ⟨Nat.le_of_ble_eq_true rfl, Nat.le_of_ble_eq_true rfl⟩ rfl hl.1 rfl (Nat.le_of_ble_eq_true rfl) ⟨Nat.le_of_ble_eq_true rfl, Nat.le_of_ble_eq_true rfl⟩ dX7_propose_1 (fun H locs hW => ?_)
  refine lv_if_eq (tgt := 8) S.1 S.2.1 dX7_propose_4 (by decide) (fun hc => ?_) (fun hc => ?_)
  · have hF := it_pos hc hF
    refine lv_aload_n S.1 S.2.1 dX7_propose_8 rfl (lv_at hl 0 rfl) ?_
    refine xg_X7_19 S hW dX7_propose_9 ?_
    refine lv_aload_n S.1 S.2.1 dX7_propose_12 rfl (lv_at hl 0 rfl) ?_
    refine xg_X7_23 S hW dX7_propose_13 ?_
    refine lv_iadd S.1 S.2.1 dX7_propose_16 ?_
    refine lv_istore (lv' := [(4, .int (((xz σ 1) + (xz σ 2)))), (0, .ref (ad 3)), (1, .int a1), (2, .int a2), (3, .int a3)]) S.1 S.2.1 dX7_propose_17 hl (by decide) rfl (fun ls hl => ?_)
    refine lv_aload_n S.1 S.2.1 dX7_propose_19 rfl (lv_at hl 1 rfl) ?_
    refine xg_X7_9 S hW dX7_propose_20 ?_
    refine lv_iload S.1 S.2.1 dX7_propose_23 (lv_at hl 0 rfl) ?_
    refine lv_iload_n S.1 S.2.1 dX7_propose_25 rfl (lv_at hl 2 rfl) ?_
    obtain ⟨h2, hF⟩ := gd_of hF
    refine xs_4 S hW h2 dX7_propose_26 (fun H locs hW => ?_)
    refine lv_aload_n S.1 S.2.1 dX7_propose_27 rfl (lv_at hl 1 rfl) ?_
    refine xg_X7_13 S hW dX7_propose_28 ?_
    refine lv_iload S.1 S.2.1 dX7_propose_31 (lv_at hl 0 rfl) ?_
    refine lv_iload_n S.1 S.2.1 dX7_propose_33 rfl (lv_at hl 3 rfl) ?_
    refine xs_5 S hW h2 dX7_propose_34 (fun H locs hW => ?_)
    refine lv_aload_n S.1 S.2.1 dX7_propose_35 rfl (lv_at hl 1 rfl) ?_
    refine xg_X7_16 S hW dX7_propose_36 ?_
    refine lv_iload S.1 S.2.1 dX7_propose_39 (lv_at hl 0 rfl) ?_
    refine lv_iload_n S.1 S.2.1 dX7_propose_41 rfl (lv_at hl 4 rfl) ?_
    refine xs_6 S hW h2 dX7_propose_42 (fun H locs hW => ?_)
    refine lv_aload_n S.1 S.2.1 dX7_propose_43 rfl (lv_at hl 1 rfl) ?_
    refine lv_dup S.1 S.2.1 dX7_propose_44 rfl ?_
    refine xg_X7_23 S hW dX7_propose_45 ?_
    refine lv_iconst (v := (1 : Int32)) S.1 S.2.1 dX7_propose_48 (by decide) ?_
    refine lv_iadd S.1 S.2.1 dX7_propose_49 ?_
    refine xp_X7_23 S hW dX7_propose_50 (fun H locs hW => ?_)
    obtain rfl := Option.some.inj hF
    exact xr_v S hr hlk hW dX7_propose_53
  · have hF := it_neg hc hF
    obtain rfl := Option.some.inj hF
    exact xr_v S hr hlk hW dX7_propose_7
def fC_Rb_dropProposed (σ : SC) : Option (SC) :=
  some (yz σ 2 ((0 : Int32)))
set_option maxRecDepth 100000 in
set_option maxHeartbeats 4000000 in
theorem cC_Rb_dropProposed (l : Launch) (D : va_G) (ad : Nat → Nat) (cA : Nat → ClassId) (kk : Nat → Nat) (A : Nat → Prop) (aM aC aE : Nat → Nat) (X : va_W) {σ : SC} {o : SC} (hF : fC_Rb_dropProposed σ = some o) : Mv l yX7_dropProposed cX7_dropProposed 1 { frames := 0, cells := 0, slots := 0, locals := 0 } [.ref (ad 3)] (CP D ad cA kk A aM aC aE X σ) (CP D ad cA kk A aM aC aE X o) A := by
  refine Mv.of (own := RX7) rfl (by decide +kernel) (Nat.le_of_ble_eq_true rfl) ?_
  intro p e s m args below meth c ls S hr hlk hP hl _
  have hW := CW.start hP
  have hl : lv_has ls 1 [(0, .ref (ad 3))] := hl
  rw [fC_Rb_dropProposed] at hF
  refine lv_aload_n S.1 S.2.1 dX7_dropProposed_0 rfl (lv_at hl 0 rfl) ?_
  refine lv_iconst (v := (0 : Int32)) S.1 S.2.1 dX7_dropProposed_1 (by decide) ?_
  refine xp_X7_23 S hW dX7_dropProposed_2 (fun H locs hW => ?_)
  obtain rfl := Option.some.inj hF
  exact xr_v S hr hlk hW dX7_dropProposed_5
def fC_Rb_acceptProposed (σ : SC) : Option (Int32 × SC) :=
  some ((xz σ 2), yz (yz σ 1 (((xz σ 1) + (xz σ 2)))) 2 ((0 : Int32)))
set_option maxRecDepth 100000 in
set_option maxHeartbeats 4000000 in
theorem cC_Rb_acceptProposed (l : Launch) (D : va_G) (ad : Nat → Nat) (cA : Nat → ClassId) (kk : Nat → Nat) (A : Nat → Prop) (aM aC aE : Nat → Nat) (X : va_W) {σ : SC} {o : Int32 × SC} (hF : fC_Rb_acceptProposed σ = some o) : Mi l yX7_acceptProposed cX7_acceptProposed 2 .int { frames := 0, cells := 0, slots := 0, locals := 0 } [.ref (ad 3)] (CP D ad cA kk A aM aC aE X σ) o.1 (CP D ad cA kk A aM aC aE X (o.2)) A := by
  refine Mi.of (own := RX7) rfl (by decide +kernel) (Nat.le_of_ble_eq_true rfl) ?_
  intro p e s m args below meth c ls S hr hlk hP hl
  have hW := CW.start hP
  have hl : lv_has ls 2 [(0, .ref (ad 3))] := hl
  rw [fC_Rb_acceptProposed] at hF
  refine lv_aload_n S.1 S.2.1 dX7_acceptProposed_0 rfl (lv_at hl 0 rfl) ?_
  refine xg_X7_23 S hW dX7_acceptProposed_1 ?_
  refine lv_istore_n (lv' := [(1, .int ((xz σ 2))), (0, .ref (ad 3))]) S.1 S.2.1 dX7_acceptProposed_4 rfl hl (by decide) rfl (fun ls hl => ?_)
  refine lv_aload_n S.1 S.2.1 dX7_acceptProposed_5 rfl (lv_at hl 1 rfl) ?_
  refine lv_dup S.1 S.2.1 dX7_acceptProposed_6 rfl ?_
  refine xg_X7_19 S hW dX7_acceptProposed_7 ?_
  refine lv_iload_n S.1 S.2.1 dX7_acceptProposed_10 rfl (lv_at hl 0 rfl) ?_
  refine lv_iadd S.1 S.2.1 dX7_acceptProposed_11 ?_
  refine xp_X7_19 S hW dX7_acceptProposed_12 (fun H locs hW => ?_)
  refine lv_aload_n S.1 S.2.1 dX7_acceptProposed_15 rfl (lv_at hl 1 rfl) ?_
  refine lv_iconst (v := (0 : Int32)) S.1 S.2.1 dX7_acceptProposed_16 (by decide) ?_
  refine xp_X7_23 S hW dX7_acceptProposed_17 (fun H locs hW => ?_)
  refine lv_iload_n S.1 S.2.1 dX7_acceptProposed_20 rfl (lv_at hl 0 rfl) ?_
  obtain rfl := Option.some.inj hF
  exact xr_i S hr hlk hW rfl rfl dX7_acceptProposed_21
def fC_B_fault (σ : SC) (a1 : Int32) : Option (Int32) :=
  if a1 = (0 : Int32) then
  some ((xz σ 4))
  else if a1 = (1 : Int32) then
  some ((xz σ 5))
  else 
  some ((-1 : Int32))
set_option maxRecDepth 100000 in
set_option maxHeartbeats 4000000 in
theorem cC_B_fault (l : Launch) (D : va_G) (ad : Nat → Nat) (cA : Nat → ClassId) (kk : Nat → Nat) (A : Nat → Prop) (aM aC aE : Nat → Nat) (X : va_W) {σ : SC} {a1 : Int32} {o : Int32} (hF : fC_B_fault σ a1 = some o) : Mi l yX10_fault cX10_fault 2 .int { frames := 0, cells := 0, slots := 0, locals := 0 } [.ref (ad 0), .int a1] (CP D ad cA kk A aM aC aE X σ) o (CP D ad cA kk A aM aC aE X σ) A := by
  refine Mi.of (own := RX10) rfl (by decide +kernel) (Nat.le_of_ble_eq_true rfl) ?_
  intro p e s m args below meth c ls S hr hlk hP hl
  have hW := CW.start hP
  have hl : lv_has ls 2 [(0, .ref (ad 0)), (1, .int a1)] := hl
  rw [fC_B_fault] at hF
  refine lv_iload_n S.1 S.2.1 dX10_fault_0 rfl (lv_at hl 1 rfl) ?_
  rcases Classical.em (a1 = (0 : Int32)) with hc0 | hc0
  · have hF := it_pos hc0 hF
    refine lv_lookup (off := 27) (tgt := 28) S.1 S.2.1 dX10_fault_1 (by decide) (by rw [hc0]; decide) (by decide) ?_
    refine lv_aload_n S.1 S.2.1 dX10_fault_28 rfl (lv_at hl 0 rfl) ?_
    refine xg_X10_28 S hW dX10_fault_29 ?_
    refine xg_X10_74 S hW dX10_fault_32 ?_
    obtain rfl := Option.some.inj hF
    exact xr_i S hr hlk hW rfl rfl dX10_fault_35
  · have hF := it_neg hc0 hF
    rcases Classical.em (a1 = (1 : Int32)) with hc1 | hc1
    · have hF := it_pos hc1 hF
      refine lv_lookup (off := 35) (tgt := 36) S.1 S.2.1 dX10_fault_1 (by decide) (by rw [hc1]; decide) (by decide) ?_
      refine lv_aload_n S.1 S.2.1 dX10_fault_36 rfl (lv_at hl 0 rfl) ?_
      refine xg_X10_28 S hW dX10_fault_37 ?_
      refine xg_X10_77 S hW dX10_fault_40 ?_
      obtain rfl := Option.some.inj hF
      exact xr_i S hr hlk hW rfl rfl dX10_fault_43
    · have hF := it_neg hc1 hF
      refine lv_lookup (off := 43) (tgt := 44) S.1 S.2.1 dX10_fault_1 (by decide) ((lv_osw hc0 (by decide)).trans ((lv_osw hc1 (by decide)).trans rfl)) (by decide) ?_
      refine lv_iconst (v := (-1 : Int32)) S.1 S.2.1 dX10_fault_44 (by decide) ?_
      obtain rfl := Option.some.inj hF
      exact xr_i S hr hlk hW rfl rfl dX10_fault_45
def fC_Rb_inForce_L30 (σ : SC) (l1 : Int32) (l2 : Int32) : Nat → Int32 → Int32 → Int32 → Option (Int32)
  | 0, _, _, _ => none
  | n + 1, x3, x4, x5 =>
    if (xz σ 1) ≤ x5 then
    some ((x3))
    else
    if (60 : Int32) ≤ x5 then
    some ((x3))
    else
    if x5 < 0 ∨ 60 ≤ (x5).toNatClampNeg then none else
    Option.bind (if (xf σ 1 (x5).toNatClampNeg) = l1 then
    if l2 < (xf σ 3 (x5).toNatClampNeg) then
    some (x3, x4)
    else
    if (xf σ 3 (x5).toNatClampNeg) < x4 then
    some (x3, x4)
    else
    some ((xf σ 2 (x5).toNatClampNeg), (xf σ 3 (x5).toNatClampNeg))
    else
    some (x3, x4)) (fun u2 =>
    fC_Rb_inForce_L30 σ l1 l2 n u2.1 u2.2 ((x5 + (1 : Int32))))
def fC_Rb_inForce (σ : SC) (a1 : Int32) (a2 : Int32) : Option (Int32) :=
  Option.bind (fC_isWithin a1 ((0 : Int32)) (((8 : Int32) - (1 : Int32)))) (fun u1 =>
  Option.bind (if u1 = 0 then
  some ((0 : Int32))
  else
  if a1 < 0 ∨ 8 ≤ (a1).toNatClampNeg then none else
  some ((kwa.getD (a1).toNatClampNeg 0))) (fun u2 =>
  Option.bind (fC_Rb_inForce_L30 σ a1 a2 1000 u2 ((0 : Int32)) ((0 : Int32))) (fun u4 =>
  some u4)))
set_option maxRecDepth 100000 in
set_option maxHeartbeats 4000000 in
theorem cC_Rb_inForce (l : Launch) (D : va_G) (ad : Nat → Nat) (cA : Nat → ClassId) (kk : Nat → Nat) (A : Nat → Prop) (aM aC aE : Nat → Nat) (X : va_W) {σ : SC} {a1 : Int32} {a2 : Int32} {o : Int32} (hF : fC_Rb_inForce σ a1 a2 = some o) : Mi l yX7_inForce cX7_inForce 6 .int { frames := 1, cells := 0, slots := 0, locals := 22 } [.ref (ad 3), .int a1, .int a2] (CP D ad cA kk A aM aC aE X σ) o (CP D ad cA kk A aM aC aE X σ) A := by
  refine Mi.of (own := RX7) rfl (by decide +kernel) (Nat.le_of_ble_eq_true rfl) ?_
  intro p e s m args below meth c ls S hr hlk hP hl
  have hW := CW.start hP
  have hl : lv_has ls 6 [(0, .ref (ad 3)), (1, .int a1), (2, .int a2)] := hl
  rw [fC_Rb_inForce] at hF
  refine lv_iload_n S.1 S.2.1 dX7_inForce_0 rfl (lv_at hl 1 rfl) ?_
  refine lv_iconst (v := (0 : Int32)) S.1 S.2.1 dX7_inForce_1 (by decide) ?_
  refine va_gets S.1 S.2.1 hW.2.1.2.1.2.2.2.1 hW.2.2.2 S.2.2.2.1 (S.2.2.2.2 _ m_478) (fun _ h => h) dX7_inForce_2 ?_
  refine va_tlen (v := 8) S.1 S.2.1 hW.2.1.2.1.2.2.2.2.1 hW.2.2.2 rfl dX7_inForce_5 ?_
  refine lv_iconst (v := (1 : Int32)) S.1 S.2.1 dX7_inForce_6 (by decide) ?_
  refine lv_isub S.1 S.2.1 dX7_inForce_7 ?_
  obtain ⟨u1, hu1, hF⟩ := bd_of hF
  refine sc_iN (k := 3) (As := [.int a1, .int ((0 : Int32)), .int (((8 : Int32) - (1 : Int32)))]) (rest := []) (cC_isWithin l hu1) S hW.2.1.2.2.1 nw_22 m_242 m_2 m_243 rfl rfl (by decide +kernel) ⟨Nat.le_of_ble_eq_true rfl, Nat.le_of_ble_eq_true rfl⟩ rfl hl.1 rfl (Nat.le_of_ble_eq_true rfl) ⟨Nat.le_of_ble_eq_true rfl, Nat.le_of_ble_eq_true rfl⟩ dX7_inForce_8 ?_
  obtain ⟨u2, hX, hF⟩ := bd_of hF
  refine jn1 (fun H locs ls => lv_has ls 6 [(0, .ref (ad 3)), (1, .int a1), (2, .int a2)] ∧ CW D ad cA kk A aM aC aE X σ s H locs) 23 [.int u2] (fun H locs ls hJ => ?_) (fun Ju2 => ?_)
  · obtain ⟨hl, hW⟩ := hJ
    refine lv_istore_n (lv' := [(3, .int u2), (0, .ref (ad 3)), (1, .int a1), (2, .int a2)]) S.1 S.2.1 dX7_inForce_23 rfl hl (by decide) rfl (fun ls hl => ?_)
    refine lv_iconst (v := (0 : Int32)) S.1 S.2.1 dX7_inForce_24 (by decide) ?_
    refine lv_istore (lv' := [(4, .int ((0 : Int32))), (3, .int u2), (0, .ref (ad 3)), (1, .int a1), (2, .int a2)]) S.1 S.2.1 dX7_inForce_25 hl (by decide) rfl (fun ls hl => ?_)
    refine lv_iconst (v := (0 : Int32)) S.1 S.2.1 dX7_inForce_27 (by decide) ?_
    refine lv_istore (lv' := [(5, .int ((0 : Int32))), (4, .int ((0 : Int32))), (3, .int u2), (0, .ref (ad 3)), (1, .int a1), (2, .int a2)]) S.1 S.2.1 dX7_inForce_28 hl (by decide) rfl (fun ls hl => ?_)
    obtain ⟨u4, hX, hF⟩ := bd_of hF
    refine jn1 (fun H locs ls => lv_has ls 6 [(3, .int u4)] ∧ CW D ad cA kk A aM aC aE X σ s H locs) 103 [] (fun H locs ls hJ => ?_) (fun Ju4 => ?_)
    · obtain ⟨hl, hW⟩ := hJ
      refine lv_iload_n S.1 S.2.1 dX7_inForce_103 rfl (lv_at hl 0 rfl) ?_
      obtain rfl := Option.some.inj hF
      exact xr_i S hr hlk hW rfl rfl dX7_inForce_104
    · refine lpW (fun (xu4 : Int32 × Int32 × Int32) H locs ls => lv_has ls 6 [(0, .ref (ad 3)), (1, .int a1), (2, .int a2), (3, .int xu4.1), (4, .int xu4.2.1), (5, .int xu4.2.2)] ∧ CW D ad cA kk A aM aC aE X σ s H locs) 30 (fun n xu4 => fC_Rb_inForce_L30 σ a1 a2 n xu4.1 xu4.2.1 xu4.2.2) u4 (fun _ => rfl) (fun n xu4 ihu4 hF H locs ls hJ => ?_) 1000 (u2, (0 : Int32), (0 : Int32)) hX _ _ _ ⟨lv_sub hl [3, 4, 5, 2, 1, 0] rfl, hW⟩
      obtain ⟨hl, hW⟩ := hJ
      have hF : fC_Rb_inForce_L30 σ a1 a2 (n + 1) xu4.1 xu4.2.1 xu4.2.2 = some u4 := hF
      rw [fC_Rb_inForce_L30] at hF
      refine lv_iload S.1 S.2.1 dX7_inForce_30 (lv_at hl 5 rfl) ?_
      refine lv_aload_n S.1 S.2.1 dX7_inForce_32 rfl (lv_at hl 0 rfl) ?_
      refine xg_X7_19 S hW dX7_inForce_33 ?_
      refine lv_icmp_ge (tgt := 103) S.1 S.2.1 dX7_inForce_36 (by decide) (fun hc => ?_) (fun hc => ?_)
      · have hF := it_pos hc hF
        obtain rfl := Option.some.inj hF
        exact Ju4 _ _ _ ⟨lv_sub hl [3] rfl, hW⟩
      · have hF := it_neg hc hF
        refine lv_iload S.1 S.2.1 dX7_inForce_39 (lv_at hl 5 rfl) ?_
        refine lv_bipush (v := (60 : Int32)) S.1 S.2.1 dX7_inForce_41 (by decide) ?_
        refine lv_icmp_ge (tgt := 103) S.1 S.2.1 dX7_inForce_43 (by decide) (fun hc => ?_) (fun hc => ?_)
        · have hF := it_pos hc hF
          obtain rfl := Option.some.inj hF
          exact Ju4 _ _ _ ⟨lv_sub hl [3] rfl, hW⟩
        · have hF := it_neg hc hF
          refine lv_aload_n S.1 S.2.1 dX7_inForce_46 rfl (lv_at hl 0 rfl) ?_
          refine xg_X7_9 S hW dX7_inForce_47 ?_
          refine lv_iload S.1 S.2.1 dX7_inForce_50 (lv_at hl 5 rfl) ?_
          obtain ⟨h6, hF⟩ := gd_of hF
          refine xl_4 S hW h6 dX7_inForce_52 ?_
          refine lv_iload_n S.1 S.2.1 dX7_inForce_53 rfl (lv_at hl 1 rfl) ?_
          obtain ⟨u7, hX, hF⟩ := bd_of hF
          refine jn1 (fun H locs ls => lv_has ls 6 [(0, .ref (ad 3)), (1, .int a1), (2, .int a2), (3, .int u7.1), (4, .int u7.2), (5, .int xu4.2.2)] ∧ CW D ad cA kk A aM aC aE X σ s H locs) 97 [] (fun H locs ls hJ => ?_) (fun Ju7 => ?_)
          · obtain ⟨hl, hW⟩ := hJ
            refine lv_iinc (v := (xu4.2.2 + (1 : Int32))) (lv' := [(5, .int ((xu4.2.2 + (1 : Int32)))), (0, .ref (ad 3)), (1, .int a1), (2, .int a2), (3, .int u7.1), (4, .int u7.2)]) S.1 S.2.1 dX7_inForce_97 hl (k := 5) rfl rfl (by decide) rfl (fun ls hl => ?_)
            refine lv_goto (tgt := 30) S.1 S.2.1 dX7_inForce_100 (by decide) ?_
            exact ihu4 (u7.1, u7.2, (xu4.2.2 + (1 : Int32))) hF _ _ _ ⟨lv_sub hl [1, 2, 3, 4, 5, 0] rfl, hW⟩
          · have hF := hX
            refine lv_icmp_ne (tgt := 97) S.1 S.2.1 dX7_inForce_54 (by decide) (fun hc => ?_) (fun hc => ?_)
            · have hF := it_neg hc hF
              obtain rfl := Option.some.inj hF
              exact Ju7 _ _ _ ⟨lv_sub hl [0, 1, 2, 3, 4, 5] rfl, hW⟩
            · have hF := it_pos hc hF
              refine lv_aload_n S.1 S.2.1 dX7_inForce_57 rfl (lv_at hl 0 rfl) ?_
              refine xg_X7_16 S hW dX7_inForce_58 ?_
              refine lv_iload S.1 S.2.1 dX7_inForce_61 (lv_at hl 5 rfl) ?_
              refine xl_6 S hW h6 dX7_inForce_63 ?_
              refine lv_iload_n S.1 S.2.1 dX7_inForce_64 rfl (lv_at hl 2 rfl) ?_
              refine lv_icmp_gt (tgt := 97) S.1 S.2.1 dX7_inForce_65 (by decide) (fun hc => ?_) (fun hc => ?_)
              · have hF := it_pos hc hF
                obtain rfl := Option.some.inj hF
                exact Ju7 _ _ _ ⟨lv_sub hl [0, 1, 2, 3, 4, 5] rfl, hW⟩
              · have hF := it_neg hc hF
                refine lv_aload_n S.1 S.2.1 dX7_inForce_68 rfl (lv_at hl 0 rfl) ?_
                refine xg_X7_16 S hW dX7_inForce_69 ?_
                refine lv_iload S.1 S.2.1 dX7_inForce_72 (lv_at hl 5 rfl) ?_
                refine xl_6 S hW h6 dX7_inForce_74 ?_
                refine lv_iload S.1 S.2.1 dX7_inForce_75 (lv_at hl 4 rfl) ?_
                refine lv_icmp_lt (tgt := 97) S.1 S.2.1 dX7_inForce_77 (by decide) (fun hc => ?_) (fun hc => ?_)
                · have hF := it_pos hc hF
                  obtain rfl := Option.some.inj hF
                  exact Ju7 _ _ _ ⟨lv_sub hl [0, 1, 2, 3, 4, 5] rfl, hW⟩
                · have hF := it_neg hc hF
                  refine lv_aload_n S.1 S.2.1 dX7_inForce_80 rfl (lv_at hl 0 rfl) ?_
                  refine xg_X7_16 S hW dX7_inForce_81 ?_
                  refine lv_iload S.1 S.2.1 dX7_inForce_84 (lv_at hl 5 rfl) ?_
                  refine xl_6 S hW h6 dX7_inForce_86 ?_
                  refine lv_istore (lv' := [(4, .int ((xf σ 3 (xu4.2.2).toNatClampNeg))), (0, .ref (ad 3)), (1, .int a1), (2, .int a2), (3, .int xu4.1), (5, .int xu4.2.2)]) S.1 S.2.1 dX7_inForce_87 hl (by decide) rfl (fun ls hl => ?_)
                  refine lv_aload_n S.1 S.2.1 dX7_inForce_89 rfl (lv_at hl 1 rfl) ?_
                  refine xg_X7_13 S hW dX7_inForce_90 ?_
                  refine lv_iload S.1 S.2.1 dX7_inForce_93 (lv_at hl 5 rfl) ?_
                  refine xl_5 S hW h6 dX7_inForce_95 ?_
                  refine lv_istore_n (lv' := [(3, .int ((xf σ 2 (xu4.2.2).toNatClampNeg))), (4, .int ((xf σ 3 (xu4.2.2).toNatClampNeg))), (0, .ref (ad 3)), (1, .int a1), (2, .int a2), (5, .int xu4.2.2)]) S.1 S.2.1 dX7_inForce_96 rfl hl (by decide) rfl (fun ls hl => ?_)
                  obtain rfl := Option.some.inj hF
                  exact Ju7 _ _ _ ⟨lv_sub hl [2, 3, 4, 0, 1, 5] rfl, hW⟩
  · have hF := hX
    refine lv_if_eq (tgt := 22) S.1 S.2.1 dX7_inForce_11 (by decide) (fun hc => ?_) (fun hc => ?_)
    · have hF := it_pos hc hF
      refine lv_iconst (v := (0 : Int32)) S.1 S.2.1 dX7_inForce_22 (by decide) ?_
      obtain rfl := Option.some.inj hF
      exact Ju2 _ _ _ ⟨lv_sub hl [0, 1, 2] rfl, hW⟩
    · have hF := it_neg hc hF
      refine va_gets S.1 S.2.1 hW.2.1.2.1.2.2.2.1 hW.2.2.2 S.2.2.2.1 (S.2.2.2.2 _ m_478) (fun _ h => h) dX7_inForce_14 ?_
      refine lv_iload_n S.1 S.2.1 dX7_inForce_17 rfl (lv_at hl 1 rfl) ?_
      obtain ⟨h3, hF⟩ := gd_of hF
      refine va_ti (v := .int (kwa.getD (a1).toNatClampNeg 0)) S.1 S.2.1 hW.2.1.2.1.2.2.2.2.1 hW.2.2.2 h3 rfl dX7_inForce_18 ?_
      refine lv_goto (tgt := 23) S.1 S.2.1 dX7_inForce_19 (by decide) ?_
      obtain rfl := Option.some.inj hF
      exact Ju2 _ _ _ ⟨lv_sub hl [0, 1, 2] rfl, hW⟩
