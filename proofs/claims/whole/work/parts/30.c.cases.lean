
section LC
variable {p : Program} {l : Launch} {e : Env} {s : State} {m : MethodId} {args : Array Value} {below : List Frame} {meth : Method} {c : Code} {H : Heap} {locs : List Loc} {Q : State → Prop} {ls : Array Slot} {b L i cells slots : Nat} {xs : Nat → Int32}
variable {D : va_G} {ad : Nat → Nat} {cA cR : Nat → ClassId} {adR kk : Nat → Nat} {aO : Nat} {cO : ClassId} {aM aC aE : Nat → Nat} {ov : Nat → Int64} {σ : SC} {ρ : SR}
theorem lg_self (r : Int64) : lg_cmp r r = 0 := by simp [lg_cmp]
/-- script[i + k] -/
theorem sc_at {R : Room} {pc k : Nat} {z : Int} {v : Int32} {rest : List Value} (S : CallFix p m c cL_law 8 s args wsL RL) (hX : va_X b L xs s s.heap) (hbl : b < s.heap.size) (hS : va_S (L0 s) s.heap H locs) (hi : i + 6 ≤ L) (hL : L ≤ 3072) (h4 : ls[4]? = some (.val (.int (nI i)))) (h0 : ls[0]? = some (.val (.ref b))) (hk : k ≤ 5) (hv : v = nI k) (hz : Int32.ofInt z = v)
    (d0 : decode cL_law pc = .ok (.aload_n 0, 1)) (d1 : decode cL_law (pc + 1) = .ok (.iload 4, 2)) (d2 : decode cL_law (pc + 3) = .ok (.iconst z, 1)) (d3 : decode cL_law (pc + 4) = .ok (.iadd, 1)) (d4 : decode cL_law (pc + 5) = .ok (.iaload, 1))
    (kq : W p l e R s m args below meth c H locs cells slots Q (F0 m (pc + 6) ls (.int (xs (i + k)) :: rest))) : W p l e R s m args below meth c H locs cells slots Q (F0 m pc ls rest) := by
  refine lv_aload_n S.1 S.2.1 d0 rfl h0 ?_
  refine lv_iload S.1 S.2.1 d1 h4 ?_
  refine lv_iconst (v := v) S.1 S.2.1 d2 hz ?_
  refine lv_iadd S.1 S.2.1 d3 ?_
  rw [hv, nI_add]
  refine va_sld (A := L0 s) S.1 S.2.1 hX hbl (Nat.not_le.mpr hbl) hS (nI_in (by omega) (by omega)) d4 ?_
  rw [nI_clamp (by omega)]
  exact kq
theorem gd_SW {own : String} {idx : Nat} {y : MethodName} {b : ByteArray} {n : Nat} {r : Option FieldType} {hh : List (Nat × Nat × Nat × Nat)} (h1 : Cond.methodLink own idx y ∈ wsL) (h2 : Cond.static y ∈ wsL) (h4 : Cond.initialized y.cls ∈ wsL) (h5 : Cond.codeWith y b n r hh ∈ wsL) : GoodIn wsL (va_wsS own idx y (Cond.codeWith y b n r hh :: wsL)) := by
  intro w hw
  have hm : w ∈ wsL := by
    simp only [va_wsS, List.cons_append, List.nil_append, List.mem_cons] at hw
    rcases hw with rfl | rfl | rfl | rfl | hw <;> assumption
  exact ⟨hm, ws_gd w hm⟩
theorem lov_0 (ov : Nat → Int64) (r : Int64) : lov ov (some r) 0 = r := by simp [lov, vp_updL]
/-- out[0] -/
theorem out_at {R : Room} {pc : Nat} {rest : List Value} {ov : Nat → Int64} (hF : LF D cA cR adR kk cO s) (S : CallFix p m c cL_law 8 s args wsL RL) (hW : LW D ad cA cR adR kk aO cO aM aC aE ov σ ρ s H locs) (hdg : decode cL_law pc = .ok (.laload, 1))
    (kq : W p l e R s m args below meth c H locs cells slots Q (F0 m (pc + 1) ls (.long (ov 0) :: rest))) : W p l e R s m args below meth c H locs cells slots Q (F0 m pc ls (.int 0 :: .ref aO :: rest)) := by
  obtain ⟨⟨lm, la, lc, lr, hP, -⟩, -⟩ := hW
  rw [show xO aO cO ov = [] ++ [(aO, .inl (cO, 1, .inr (.inl ov)))] from rfl, ← ccells_app] at hP
  exact va_lald (D := D) S.1 S.2.1 hF.2.2.2.2.1 hP _ 0 (at_last _ _) rfl (i := 0) (nI_in (c := 0) (N := 1) (by decide) (by decide)) hdg kq
set_option maxRecDepth 100000 in
set_option maxHeartbeats 4000000 in
theorem lk_feed (S : CallFix p m c cL_law 8 s args wsL RL) (hF : LF D cA cR adR kk cO s) (hX : va_X b L xs s s.heap) (hbl : b < s.heap.size) (hi : i + 6 ≤ L) (hL : L ≤ 3072) (hW : LW D ad cA cR adR kk aO cO aM aC aE ov σ ρ s H locs) (hrel : Rel σ ρ) (hl : lv_has ls 8 [(4, .int (nI i)), (0, .ref b), (1, .ref (ad 0)), (2, .ref (adR 35)), (3, .ref aO)]) (hc1 : cells + 2 * (1001 - nn σ) + 1 ≤ 601024) (hc2 : slots + 1300 * (1001 - nn σ) + 6 ≤ 7293034)
    (kq : ∀ (aM1 aC1 aE1 : Nat → Nat) (ov1 : Nat → Int64) (σ1 : SC) (ρ1 : SR) (H1 : Heap) (locs1 : List Loc) (ls1 : Array Slot), LW D ad cA cR adR kk aO cO aM1 aC1 aE1 ov1 σ1 ρ1 s H1 locs1 → Rel σ1 ρ1 → nn σ ≤ nn σ1 → lv_has ls1 8 [(4, .int (nI i)), (0, .ref b), (1, .ref (ad 0)), (2, .ref (adR 35)), (3, .ref aO)] → W p l e room_1 s m args below meth c H1 locs1 (cells + cst σ σ1 + 1) (slots + sst σ σ1 + 6) Q (F0 m 1248 ls1 [])) : W p l e room_1 s m args below meth c H locs cells slots Q (F0 m 164 ls []) := by
  have hwf := hW.2.2.1.nn
  obtain ⟨r, σ', ρ', hc, hr, hrel'⟩ := eq_feed hrel (xs (i + 1)) (xs (i + 2)) (xs (i + 3)) (xs (i + 4)) (xs (i + 5))
  refine lv_aload_n S.1 S.2.1 dL_law_164 rfl (lv_at hl 2 rfl) ?_
  refine sc_at (k := 1) (v := 1) S hX hbl hW.2.2.2 hi hL (lv_at hl 0 rfl) (lv_at hl 1 rfl) (by decide) rfl rfl dL_law_165 dL_law_166 dL_law_168 dL_law_169 dL_law_170 ?_
  refine sc_at (k := 2) (v := 2) S hX hbl hW.2.2.2 hi hL (lv_at hl 0 rfl) (lv_at hl 1 rfl) (by decide) rfl rfl dL_law_171 dL_law_172 dL_law_174 dL_law_175 dL_law_176 ?_
  refine sc_at (k := 3) (v := 3) S hX hbl hW.2.2.2 hi hL (lv_at hl 0 rfl) (lv_at hl 1 rfl) (by decide) rfl rfl dL_law_177 dL_law_178 dL_law_180 dL_law_181 dL_law_182 ?_
  refine sc_at (k := 4) (v := 4) S hX hbl hW.2.2.2 hi hL (lv_at hl 0 rfl) (lv_at hl 1 rfl) (by decide) rfl rfl dL_law_183 dL_law_184 dL_law_186 dL_law_187 dL_law_188 ?_
  refine sc_at (k := 5) (v := 5) S hX hbl hW.2.2.2 hi hL (lv_at hl 0 rfl) (lv_at hl 1 rfl) (by decide) rfl rfl dL_law_189 dL_law_190 dL_law_192 dL_law_193 dL_law_194 ?_
  refine kc_ci hF (cC_B_feed l D ad cA kk (LA s adR) aM aC aE (xO aO cO ov) hc) (As := [.int (xs (i + 1)), .int (xs (i + 2)), .int (xs (i + 3)), .int (xs (i + 4)), .int (xs (i + 5))]) (rest := []) (k := 5) S hW (gd_V m_208 m_209 m_210 m_2 m_211) (by decide +kernel) ⟨(Nat.le_of_ble_eq_true rfl), (Nat.le_of_ble_eq_true rfl)⟩ rfl hl.1 rfl (Nat.le_of_ble_eq_true rfl) ⟨by show cells ≤ 601024; omega, by show slots ≤ 7293034; omega⟩ dL_law_195 (fun H locs hW => ?_)
  refine lv_aload_n S.1 S.2.1 dL_law_198 rfl (lv_at hl 3 rfl) ?_
  refine sc_at (k := 1) (v := 1) S hX hbl hW.2.2.2 hi hL (lv_at hl 0 rfl) (lv_at hl 1 rfl) (by decide) rfl rfl dL_law_199 dL_law_200 dL_law_202 dL_law_203 dL_law_204 ?_
  refine sc_at (k := 2) (v := 2) S hX hbl hW.2.2.2 hi hL (lv_at hl 0 rfl) (lv_at hl 1 rfl) (by decide) rfl rfl dL_law_205 dL_law_206 dL_law_208 dL_law_209 dL_law_210 ?_
  refine sc_at (k := 3) (v := 3) S hX hbl hW.2.2.2 hi hL (lv_at hl 0 rfl) (lv_at hl 1 rfl) (by decide) rfl rfl dL_law_211 dL_law_212 dL_law_214 dL_law_215 dL_law_216 ?_
  refine sc_at (k := 4) (v := 4) S hX hbl hW.2.2.2 hi hL (lv_at hl 0 rfl) (lv_at hl 1 rfl) (by decide) rfl rfl dL_law_217 dL_law_218 dL_law_220 dL_law_221 dL_law_222 ?_
  refine sc_at (k := 5) (v := 5) S hX hbl hW.2.2.2 hi hL (lv_at hl 0 rfl) (lv_at hl 1 rfl) (by decide) rfl rfl dL_law_223 dL_law_224 dL_law_226 dL_law_227 dL_law_228 ?_
  refine kc_ri hF (cR_feed l D adR cR kk hF.1 hr) (As := [.int (xs (i + 1)), .int (xs (i + 2)), .int (xs (i + 3)), .int (xs (i + 4)), .int (xs (i + 5))]) (rest := [.int r]) (k := 5) S hW (gd_V m_224 m_225 m_226 m_5 m_227) (by decide +kernel) ⟨(Nat.le_of_ble_eq_true rfl), (Nat.le_of_ble_eq_true rfl)⟩ rfl hl.1 rfl (Nat.le_of_ble_eq_true rfl) ⟨by show cells ≤ 601024; omega, by show slots ≤ 7293034; omega⟩ dL_law_229 (fun H locs hW => ?_)
  refine lv_icmp_eq (tgt := 1248) S.1 S.2.1 dL_law_232 (by decide) (fun _ => ?_) (fun hne => absurd rfl hne)
  have hle : nn σ ≤ nn σ' := Nat.le_of_eq (kn_B_feed σ _ _ _ _ _ _ hc).symm
  refine W.widen (k := cells + cst σ σ' + 1) (n := slots + sst σ σ' + 6) (by omega) (by omega) ?_
  exact kq _ _ _ _ _ _ _ _ ls hW hrel' hle hl
set_option maxRecDepth 100000 in
set_option maxHeartbeats 4000000 in
theorem lk_end (S : CallFix p m c cL_law 8 s args wsL RL) (hF : LF D cA cR adR kk cO s) (hX : va_X b L xs s s.heap) (hbl : b < s.heap.size) (hi : i + 6 ≤ L) (hL : L ≤ 3072) (hW : LW D ad cA cR adR kk aO cO aM aC aE ov σ ρ s H locs) (hrel : Rel σ ρ) (hl : lv_has ls 8 [(4, .int (nI i)), (0, .ref b), (1, .ref (ad 0)), (2, .ref (adR 35)), (3, .ref aO)]) (hc1 : cells + 2 * (1001 - nn σ) + 1 ≤ 601024) (hc2 : slots + 1300 * (1001 - nn σ) + 6 ≤ 7293034)
    (kq : ∀ (aM1 aC1 aE1 : Nat → Nat) (ov1 : Nat → Int64) (σ1 : SC) (ρ1 : SR) (H1 : Heap) (locs1 : List Loc) (ls1 : Array Slot), LW D ad cA cR adR kk aO cO aM1 aC1 aE1 ov1 σ1 ρ1 s H1 locs1 → Rel σ1 ρ1 → nn σ ≤ nn σ1 → lv_has ls1 8 [(4, .int (nI i)), (0, .ref b), (1, .ref (ad 0)), (2, .ref (adR 35)), (3, .ref aO)] → W p l e room_1 s m args below meth c H1 locs1 (cells + cst σ σ1 + 1) (slots + sst σ σ1 + 6) Q (F0 m 1248 ls1 [])) : W p l e room_1 s m args below meth c H locs cells slots Q (F0 m 237 ls []) := by
  have hwf := hW.2.2.1.nn
  obtain ⟨r, σ', ρ', hc, hr, hrel'⟩ := eq_end hrel (xs (i + 1))
  refine lv_aload_n S.1 S.2.1 dL_law_237 rfl (lv_at hl 2 rfl) ?_
  refine sc_at (k := 1) (v := 1) S hX hbl hW.2.2.2 hi hL (lv_at hl 0 rfl) (lv_at hl 1 rfl) (by decide) rfl rfl dL_law_238 dL_law_239 dL_law_241 dL_law_242 dL_law_243 ?_
  refine kc_ci hF (cC_B_end l D ad cA kk (LA s adR) aM aC aE (xO aO cO ov) hc) (As := [.int (xs (i + 1))]) (rest := []) (k := 1) S hW (gd_V m_234 m_235 m_236 m_2 m_237) (by decide +kernel) ⟨(Nat.le_of_ble_eq_true rfl), (Nat.le_of_ble_eq_true rfl)⟩ rfl hl.1 rfl (Nat.le_of_ble_eq_true rfl) ⟨by show cells ≤ 601024; omega, by show slots ≤ 7293034; omega⟩ dL_law_244 (fun H locs hW => ?_)
  refine lv_aload_n S.1 S.2.1 dL_law_247 rfl (lv_at hl 3 rfl) ?_
  refine sc_at (k := 1) (v := 1) S hX hbl hW.2.2.2 hi hL (lv_at hl 0 rfl) (lv_at hl 1 rfl) (by decide) rfl rfl dL_law_248 dL_law_249 dL_law_251 dL_law_252 dL_law_253 ?_
  refine kc_ri hF (cR_end l D adR cR kk hF.1 hr) (As := [.int (xs (i + 1))]) (rest := [.int r]) (k := 1) S hW (gd_V m_244 m_245 m_246 m_5 m_247) (by decide +kernel) ⟨(Nat.le_of_ble_eq_true rfl), (Nat.le_of_ble_eq_true rfl)⟩ rfl hl.1 rfl (Nat.le_of_ble_eq_true rfl) ⟨by show cells ≤ 601024; omega, by show slots ≤ 7293034; omega⟩ dL_law_254 (fun H locs hW => ?_)
  refine lv_icmp_eq (tgt := 1248) S.1 S.2.1 dL_law_257 (by decide) (fun _ => ?_) (fun hne => absurd rfl hne)
  have hle : nn σ ≤ nn σ' := Nat.le_of_eq (kn_B_end σ _ _ hc).symm
  refine W.widen (k := cells + cst σ σ' + 1) (n := slots + sst σ σ' + 6) (by omega) (by omega) ?_
  exact kq _ _ _ _ _ _ _ _ ls hW hrel' hle hl
set_option maxRecDepth 100000 in
set_option maxHeartbeats 4000000 in
theorem lk_rules (S : CallFix p m c cL_law 8 s args wsL RL) (hF : LF D cA cR adR kk cO s) (hX : va_X b L xs s s.heap) (hbl : b < s.heap.size) (hi : i + 6 ≤ L) (hL : L ≤ 3072) (hW : LW D ad cA cR adR kk aO cO aM aC aE ov σ ρ s H locs) (hrel : Rel σ ρ) (hl : lv_has ls 8 [(4, .int (nI i)), (0, .ref b), (1, .ref (ad 0)), (2, .ref (adR 35)), (3, .ref aO)]) (hc1 : cells + 2 * (1001 - nn σ) + 1 ≤ 601024) (hc2 : slots + 1300 * (1001 - nn σ) + 6 ≤ 7293034)
    (kq : ∀ (aM1 aC1 aE1 : Nat → Nat) (ov1 : Nat → Int64) (σ1 : SC) (ρ1 : SR) (H1 : Heap) (locs1 : List Loc) (ls1 : Array Slot), LW D ad cA cR adR kk aO cO aM1 aC1 aE1 ov1 σ1 ρ1 s H1 locs1 → Rel σ1 ρ1 → nn σ ≤ nn σ1 → lv_has ls1 8 [(4, .int (nI i)), (0, .ref b), (1, .ref (ad 0)), (2, .ref (adR 35)), (3, .ref aO)] → W p l e room_1 s m args below meth c H1 locs1 (cells + cst σ σ1 + 1) (slots + sst σ σ1 + 6) Q (F0 m 1248 ls1 [])) : W p l e room_1 s m args below meth c H locs cells slots Q (F0 m 262 ls []) := by
  have hwf := hW.2.2.1.nn
  obtain ⟨r, σ', ρ', hc, hr, hrel'⟩ := eq_rules hrel 
  refine lv_aload_n S.1 S.2.1 dL_law_262 rfl (lv_at hl 2 rfl) ?_
  refine kc_ci hF (cC_B_rules l D ad cA kk (LA s adR) aM aC aE (xO aO cO ov) hc) (As := []) (rest := []) (k := 0) S hW (gd_V m_248 m_249 m_250 m_2 m_251) (by decide +kernel) ⟨(Nat.le_of_ble_eq_true rfl), (Nat.le_of_ble_eq_true rfl)⟩ rfl hl.1 rfl (Nat.le_of_ble_eq_true rfl) ⟨by show cells ≤ 601024; omega, by show slots ≤ 7293034; omega⟩ dL_law_263 (fun H locs hW => ?_)
  refine lv_aload_n S.1 S.2.1 dL_law_266 rfl (lv_at hl 3 rfl) ?_
  refine kc_ri hF (cR_rules l D adR cR kk hF.1 hr) (As := []) (rest := [.int r]) (k := 0) S hW (gd_V m_369 m_370 m_371 m_5 m_372) (by decide +kernel) ⟨(Nat.le_of_ble_eq_true rfl), (Nat.le_of_ble_eq_true rfl)⟩ rfl hl.1 rfl (Nat.le_of_ble_eq_true rfl) ⟨by show cells ≤ 601024; omega, by show slots ≤ 7293034; omega⟩ dL_law_267 (fun H locs hW => ?_)
  refine lv_icmp_eq (tgt := 1248) S.1 S.2.1 dL_law_270 (by decide) (fun _ => ?_) (fun hne => absurd rfl hne)
  have hle : nn σ ≤ nn σ' := Nat.le_of_eq (kn_B_rules σ  _ hc).symm
  refine W.widen (k := cells + cst σ σ' + 1) (n := slots + sst σ σ' + 6) (by omega) (by omega) ?_
  exact kq _ _ _ _ _ _ _ _ ls hW hrel' hle hl
set_option maxRecDepth 100000 in
set_option maxHeartbeats 4000000 in
theorem lk_fault (S : CallFix p m c cL_law 8 s args wsL RL) (hF : LF D cA cR adR kk cO s) (hX : va_X b L xs s s.heap) (hbl : b < s.heap.size) (hi : i + 6 ≤ L) (hL : L ≤ 3072) (hW : LW D ad cA cR adR kk aO cO aM aC aE ov σ ρ s H locs) (hrel : Rel σ ρ) (hl : lv_has ls 8 [(4, .int (nI i)), (0, .ref b), (1, .ref (ad 0)), (2, .ref (adR 35)), (3, .ref aO)]) (hc1 : cells + 2 * (1001 - nn σ) + 1 ≤ 601024) (hc2 : slots + 1300 * (1001 - nn σ) + 6 ≤ 7293034)
    (kq : ∀ (aM1 aC1 aE1 : Nat → Nat) (ov1 : Nat → Int64) (σ1 : SC) (ρ1 : SR) (H1 : Heap) (locs1 : List Loc) (ls1 : Array Slot), LW D ad cA cR adR kk aO cO aM1 aC1 aE1 ov1 σ1 ρ1 s H1 locs1 → Rel σ1 ρ1 → nn σ ≤ nn σ1 → lv_has ls1 8 [(4, .int (nI i)), (0, .ref b), (1, .ref (ad 0)), (2, .ref (adR 35)), (3, .ref aO)] → W p l e room_1 s m args below meth c H1 locs1 (cells + cst σ σ1 + 1) (slots + sst σ σ1 + 6) Q (F0 m 1248 ls1 [])) : W p l e room_1 s m args below meth c H locs cells slots Q (F0 m 275 ls []) := by
  have hwf := hW.2.2.1.nn
  obtain ⟨r, ρ', hc, hr, hrel'⟩ := eq_fault hrel (xs (i + 1))
  refine lv_aload_n S.1 S.2.1 dL_law_275 rfl (lv_at hl 2 rfl) ?_
  refine sc_at (k := 1) (v := 1) S hX hbl hW.2.2.2 hi hL (lv_at hl 0 rfl) (lv_at hl 1 rfl) (by decide) rfl rfl dL_law_276 dL_law_277 dL_law_279 dL_law_280 dL_law_281 ?_
  refine kc_ci hF (cC_B_fault l D ad cA kk (LA s adR) aM aC aE (xO aO cO ov) hc) (As := [.int (xs (i + 1))]) (rest := []) (k := 1) S hW (gd_V m_461 m_462 m_463 m_2 m_464) (by decide +kernel) ⟨(Nat.le_of_ble_eq_true rfl), (Nat.le_of_ble_eq_true rfl)⟩ rfl hl.1 rfl (Nat.le_of_ble_eq_true rfl) ⟨by show cells ≤ 601024; omega, by show slots ≤ 7293034; omega⟩ dL_law_282 (fun H locs hW => ?_)
  refine lv_aload_n S.1 S.2.1 dL_law_285 rfl (lv_at hl 3 rfl) ?_
  refine sc_at (k := 1) (v := 1) S hX hbl hW.2.2.2 hi hL (lv_at hl 0 rfl) (lv_at hl 1 rfl) (by decide) rfl rfl dL_law_286 dL_law_287 dL_law_289 dL_law_290 dL_law_291 ?_
  refine kc_ri hF (cR_fault l D adR cR kk hF.1 hr) (As := [.int (xs (i + 1))]) (rest := [.int r]) (k := 1) S hW (gd_V m_465 m_466 m_467 m_5 m_468) (by decide +kernel) ⟨(Nat.le_of_ble_eq_true rfl), (Nat.le_of_ble_eq_true rfl)⟩ rfl hl.1 rfl (Nat.le_of_ble_eq_true rfl) ⟨by show cells ≤ 601024; omega, by show slots ≤ 7293034; omega⟩ dL_law_292 (fun H locs hW => ?_)
  refine lv_icmp_eq (tgt := 1248) S.1 S.2.1 dL_law_295 (by decide) (fun _ => ?_) (fun hne => absurd rfl hne)
  have hle : nn σ ≤ nn σ := Nat.le_refl _
  refine W.widen (k := cells + cst σ σ + 1) (n := slots + sst σ σ + 6) (by omega) (by omega) ?_
  exact kq _ _ _ _ _ _ _ _ ls hW hrel' hle hl
set_option maxRecDepth 100000 in
set_option maxHeartbeats 4000000 in
theorem lk_rule (S : CallFix p m c cL_law 8 s args wsL RL) (hF : LF D cA cR adR kk cO s) (hX : va_X b L xs s s.heap) (hbl : b < s.heap.size) (hi : i + 6 ≤ L) (hL : L ≤ 3072) (hW : LW D ad cA cR adR kk aO cO aM aC aE ov σ ρ s H locs) (hrel : Rel σ ρ) (hl : lv_has ls 8 [(4, .int (nI i)), (0, .ref b), (1, .ref (ad 0)), (2, .ref (adR 35)), (3, .ref aO)]) (hc1 : cells + 2 * (1001 - nn σ) + 1 ≤ 601024) (hc2 : slots + 1300 * (1001 - nn σ) + 6 ≤ 7293034)
    (kq : ∀ (aM1 aC1 aE1 : Nat → Nat) (ov1 : Nat → Int64) (σ1 : SC) (ρ1 : SR) (H1 : Heap) (locs1 : List Loc) (ls1 : Array Slot), LW D ad cA cR adR kk aO cO aM1 aC1 aE1 ov1 σ1 ρ1 s H1 locs1 → Rel σ1 ρ1 → nn σ ≤ nn σ1 → lv_has ls1 8 [(4, .int (nI i)), (0, .ref b), (1, .ref (ad 0)), (2, .ref (adR 35)), (3, .ref aO)] → W p l e room_1 s m args below meth c H1 locs1 (cells + cst σ σ1 + 1) (slots + sst σ σ1 + 6) Q (F0 m 1248 ls1 [])) : W p l e room_1 s m args below meth c H locs cells slots Q (F0 m 300 ls []) := by
  have hwf := hW.2.2.1.nn
  obtain ⟨r, ρ', hc, hr, hrel'⟩ := eq_rule hrel (xs (i + 1)) (xs (i + 2))
  refine lv_aload_n S.1 S.2.1 dL_law_300 rfl (lv_at hl 2 rfl) ?_
  refine sc_at (k := 1) (v := 1) S hX hbl hW.2.2.2 hi hL (lv_at hl 0 rfl) (lv_at hl 1 rfl) (by decide) rfl rfl dL_law_301 dL_law_302 dL_law_304 dL_law_305 dL_law_306 ?_
  refine sc_at (k := 2) (v := 2) S hX hbl hW.2.2.2 hi hL (lv_at hl 0 rfl) (lv_at hl 1 rfl) (by decide) rfl rfl dL_law_307 dL_law_308 dL_law_310 dL_law_311 dL_law_312 ?_
  refine kc_ci hF (cC_B_rule l D ad cA kk (LA s adR) aM aC aE (xO aO cO ov) hc) (As := [.int (xs (i + 1)), .int (xs (i + 2))]) (rest := []) (k := 2) S hW (gd_V m_469 m_470 m_471 m_2 m_472) (by decide +kernel) ⟨(Nat.le_of_ble_eq_true rfl), (Nat.le_of_ble_eq_true rfl)⟩ rfl hl.1 rfl (Nat.le_of_ble_eq_true rfl) ⟨by show cells ≤ 601024; omega, by show slots ≤ 7293034; omega⟩ dL_law_313 (fun H locs hW => ?_)
  refine lv_aload_n S.1 S.2.1 dL_law_316 rfl (lv_at hl 3 rfl) ?_
  refine sc_at (k := 1) (v := 1) S hX hbl hW.2.2.2 hi hL (lv_at hl 0 rfl) (lv_at hl 1 rfl) (by decide) rfl rfl dL_law_317 dL_law_318 dL_law_320 dL_law_321 dL_law_322 ?_
  refine sc_at (k := 2) (v := 2) S hX hbl hW.2.2.2 hi hL (lv_at hl 0 rfl) (lv_at hl 1 rfl) (by decide) rfl rfl dL_law_323 dL_law_324 dL_law_326 dL_law_327 dL_law_328 ?_
  refine kc_ri hF (cR_rule l D adR cR kk hF.1 hr) (As := [.int (xs (i + 1)), .int (xs (i + 2))]) (rest := [.int r]) (k := 2) S hW (gd_V m_479 m_480 m_481 m_5 m_482) (by decide +kernel) ⟨(Nat.le_of_ble_eq_true rfl), (Nat.le_of_ble_eq_true rfl)⟩ rfl hl.1 rfl (Nat.le_of_ble_eq_true rfl) ⟨by show cells ≤ 601024; omega, by show slots ≤ 7293034; omega⟩ dL_law_329 (fun H locs hW => ?_)
  refine lv_icmp_eq (tgt := 1248) S.1 S.2.1 dL_law_332 (by decide) (fun _ => ?_) (fun hne => absurd rfl hne)
  have hle : nn σ ≤ nn σ := Nat.le_refl _
  refine W.widen (k := cells + cst σ σ + 1) (n := slots + sst σ σ + 6) (by omega) (by omega) ?_
  exact kq _ _ _ _ _ _ _ _ ls hW hrel' hle hl
set_option maxRecDepth 100000 in
set_option maxHeartbeats 4000000 in
theorem lk_lag (S : CallFix p m c cL_law 8 s args wsL RL) (hF : LF D cA cR adR kk cO s) (hX : va_X b L xs s s.heap) (hbl : b < s.heap.size) (hi : i + 6 ≤ L) (hL : L ≤ 3072) (hW : LW D ad cA cR adR kk aO cO aM aC aE ov σ ρ s H locs) (hrel : Rel σ ρ) (hl : lv_has ls 8 [(4, .int (nI i)), (0, .ref b), (1, .ref (ad 0)), (2, .ref (adR 35)), (3, .ref aO)]) (hc1 : cells + 2 * (1001 - nn σ) + 1 ≤ 601024) (hc2 : slots + 1300 * (1001 - nn σ) + 6 ≤ 7293034)
    (kq : ∀ (aM1 aC1 aE1 : Nat → Nat) (ov1 : Nat → Int64) (σ1 : SC) (ρ1 : SR) (H1 : Heap) (locs1 : List Loc) (ls1 : Array Slot), LW D ad cA cR adR kk aO cO aM1 aC1 aE1 ov1 σ1 ρ1 s H1 locs1 → Rel σ1 ρ1 → nn σ ≤ nn σ1 → lv_has ls1 8 [(4, .int (nI i)), (0, .ref b), (1, .ref (ad 0)), (2, .ref (adR 35)), (3, .ref aO)] → W p l e room_1 s m args below meth c H1 locs1 (cells + cst σ σ1 + 1) (slots + sst σ σ1 + 6) Q (F0 m 1248 ls1 [])) : W p l e room_1 s m args below meth c H locs cells slots Q (F0 m 337 ls []) := by
  have hwf := hW.2.2.1.nn
  obtain ⟨r, σ', ρ', hc, hr, hrel'⟩ := eq_lag hrel (xs (i + 1)) (xs (i + 2))
  refine lv_aload_n S.1 S.2.1 dL_law_337 rfl (lv_at hl 2 rfl) ?_
  refine sc_at (k := 1) (v := 1) S hX hbl hW.2.2.2 hi hL (lv_at hl 0 rfl) (lv_at hl 1 rfl) (by decide) rfl rfl dL_law_338 dL_law_339 dL_law_341 dL_law_342 dL_law_343 ?_
  refine sc_at (k := 2) (v := 2) S hX hbl hW.2.2.2 hi hL (lv_at hl 0 rfl) (lv_at hl 1 rfl) (by decide) rfl rfl dL_law_344 dL_law_345 dL_law_347 dL_law_348 dL_law_349 ?_
  refine kc_ci hF (cC_B_lag l D ad cA kk (LA s adR) aM aC aE (xO aO cO ov) hc) (As := [.int (xs (i + 1)), .int (xs (i + 2))]) (rest := []) (k := 2) S hW (gd_V m_487 m_488 m_489 m_2 m_490) (by decide +kernel) ⟨(Nat.le_of_ble_eq_true rfl), (Nat.le_of_ble_eq_true rfl)⟩ rfl hl.1 rfl (Nat.le_of_ble_eq_true rfl) ⟨by show cells ≤ 601024; omega, by show slots ≤ 7293034; omega⟩ dL_law_350 (fun H locs hW => ?_)
  refine lv_aload_n S.1 S.2.1 dL_law_353 rfl (lv_at hl 3 rfl) ?_
  refine sc_at (k := 1) (v := 1) S hX hbl hW.2.2.2 hi hL (lv_at hl 0 rfl) (lv_at hl 1 rfl) (by decide) rfl rfl dL_law_354 dL_law_355 dL_law_357 dL_law_358 dL_law_359 ?_
  refine sc_at (k := 2) (v := 2) S hX hbl hW.2.2.2 hi hL (lv_at hl 0 rfl) (lv_at hl 1 rfl) (by decide) rfl rfl dL_law_360 dL_law_361 dL_law_363 dL_law_364 dL_law_365 ?_
  refine kc_ri hF (cR_lag l D adR cR kk hF.1 hr) (As := [.int (xs (i + 1)), .int (xs (i + 2))]) (rest := [.int r]) (k := 2) S hW (gd_V m_498 m_499 m_500 m_5 m_501) (by decide +kernel) ⟨(Nat.le_of_ble_eq_true rfl), (Nat.le_of_ble_eq_true rfl)⟩ rfl hl.1 rfl (Nat.le_of_ble_eq_true rfl) ⟨by show cells ≤ 601024; omega, by show slots ≤ 7293034; omega⟩ dL_law_366 (fun H locs hW => ?_)
  refine lv_icmp_eq (tgt := 1248) S.1 S.2.1 dL_law_369 (by decide) (fun _ => ?_) (fun hne => absurd rfl hne)
  have hle : nn σ ≤ nn σ' := Nat.le_of_eq (kn_B_lag σ _ _ _ hc).symm
  refine W.widen (k := cells + cst σ σ' + 1) (n := slots + sst σ σ' + 6) (by omega) (by omega) ?_
  exact kq _ _ _ _ _ _ _ _ ls hW hrel' hle hl
set_option maxRecDepth 100000 in
set_option maxHeartbeats 4000000 in
theorem lk_join (S : CallFix p m c cL_law 8 s args wsL RL) (hF : LF D cA cR adR kk cO s) (hX : va_X b L xs s s.heap) (hbl : b < s.heap.size) (hi : i + 6 ≤ L) (hL : L ≤ 3072) (hW : LW D ad cA cR adR kk aO cO aM aC aE ov σ ρ s H locs) (hrel : Rel σ ρ) (hl : lv_has ls 8 [(4, .int (nI i)), (0, .ref b), (1, .ref (ad 0)), (2, .ref (adR 35)), (3, .ref aO)]) (hc1 : cells + 2 * (1001 - nn σ) + 1 ≤ 601024) (hc2 : slots + 1300 * (1001 - nn σ) + 6 ≤ 7293034)
    (kq : ∀ (aM1 aC1 aE1 : Nat → Nat) (ov1 : Nat → Int64) (σ1 : SC) (ρ1 : SR) (H1 : Heap) (locs1 : List Loc) (ls1 : Array Slot), LW D ad cA cR adR kk aO cO aM1 aC1 aE1 ov1 σ1 ρ1 s H1 locs1 → Rel σ1 ρ1 → nn σ ≤ nn σ1 → lv_has ls1 8 [(4, .int (nI i)), (0, .ref b), (1, .ref (ad 0)), (2, .ref (adR 35)), (3, .ref aO)] → W p l e room_1 s m args below meth c H1 locs1 (cells + cst σ σ1 + 1) (slots + sst σ σ1 + 6) Q (F0 m 1248 ls1 [])) : W p l e room_1 s m args below meth c H locs cells slots Q (F0 m 374 ls []) := by
  have hwf := hW.2.2.1.nn
  obtain ⟨r, σ', ρ', hc, hr, hrel'⟩ := eq_join hrel (xs (i + 1)) (xs (i + 2))
  refine lv_aload_n S.1 S.2.1 dL_law_374 rfl (lv_at hl 2 rfl) ?_
  refine sc_at (k := 1) (v := 1) S hX hbl hW.2.2.2 hi hL (lv_at hl 0 rfl) (lv_at hl 1 rfl) (by decide) rfl rfl dL_law_375 dL_law_376 dL_law_378 dL_law_379 dL_law_380 ?_
  refine sc_at (k := 2) (v := 2) S hX hbl hW.2.2.2 hi hL (lv_at hl 0 rfl) (lv_at hl 1 rfl) (by decide) rfl rfl dL_law_381 dL_law_382 dL_law_384 dL_law_385 dL_law_386 ?_
  refine kc_ei hF (cC_B_join l D ad cA kk (LA s adR) aM aC aE (xO aO cO ov) hc) (As := [.int (xs (i + 1)), .int (xs (i + 2))]) (rest := []) (k := 2) S hW (gd_V m_502 m_503 m_504 m_2 m_505) (by decide +kernel) ⟨(Nat.le_of_ble_eq_true rfl), (Nat.le_of_ble_eq_true rfl)⟩ rfl hl.1 rfl (Nat.le_of_ble_eq_true rfl) ⟨by show cells + 2 * (1001 - nn σ) ≤ 601024; omega, by show slots + 1300 * (1001 - nn σ) ≤ 7293034; omega⟩ dL_law_387 (fun aM aC aE H locs hW hle => ?_)
  have hwf' : nn σ' ≤ 1001 := hW.2.2.1.nn
  have hle : nn σ ≤ nn σ' := hle
  refine lv_aload_n S.1 S.2.1 dL_law_390 rfl (lv_at hl 3 rfl) ?_
  refine sc_at (k := 1) (v := 1) S hX hbl hW.2.2.2 hi hL (lv_at hl 0 rfl) (lv_at hl 1 rfl) (by decide) rfl rfl dL_law_391 dL_law_392 dL_law_394 dL_law_395 dL_law_396 ?_
  refine sc_at (k := 2) (v := 2) S hX hbl hW.2.2.2 hi hL (lv_at hl 0 rfl) (lv_at hl 1 rfl) (by decide) rfl rfl dL_law_397 dL_law_398 dL_law_400 dL_law_401 dL_law_402 ?_
  refine kc_ri hF (cR_join l D adR cR kk hF.1 hr) (As := [.int (xs (i + 1)), .int (xs (i + 2))]) (rest := [.int r]) (k := 2) S hW (gd_V m_559 m_560 m_561 m_5 m_562) (by decide +kernel) ⟨(Nat.le_of_ble_eq_true rfl), (Nat.le_of_ble_eq_true rfl)⟩ rfl hl.1 rfl (Nat.le_of_ble_eq_true rfl) ⟨by show cells + cst σ σ' ≤ 601024; unfold cst; omega, by show slots + sst σ σ' ≤ 7293034; unfold sst; omega⟩ dL_law_403 (fun H locs hW => ?_)
  refine lv_icmp_eq (tgt := 1248) S.1 S.2.1 dL_law_406 (by decide) (fun _ => ?_) (fun hne => absurd rfl hne)
  refine W.widen (k := cells + cst σ σ' + 1) (n := slots + sst σ σ' + 6) (by show cells + cst σ σ' ≤ cells + cst σ σ' + 1; omega) (by show slots + sst σ σ' ≤ slots + sst σ σ' + 6; omega) ?_
  exact kq _ _ _ _ _ _ _ _ ls hW hrel' hle hl
set_option maxRecDepth 100000 in
set_option maxHeartbeats 4000000 in
theorem lk_move (S : CallFix p m c cL_law 8 s args wsL RL) (hF : LF D cA cR adR kk cO s) (hX : va_X b L xs s s.heap) (hbl : b < s.heap.size) (hi : i + 6 ≤ L) (hL : L ≤ 3072) (hW : LW D ad cA cR adR kk aO cO aM aC aE ov σ ρ s H locs) (hrel : Rel σ ρ) (hl : lv_has ls 8 [(4, .int (nI i)), (0, .ref b), (1, .ref (ad 0)), (2, .ref (adR 35)), (3, .ref aO)]) (hc1 : cells + 2 * (1001 - nn σ) + 1 ≤ 601024) (hc2 : slots + 1300 * (1001 - nn σ) + 6 ≤ 7293034)
    (kq : ∀ (aM1 aC1 aE1 : Nat → Nat) (ov1 : Nat → Int64) (σ1 : SC) (ρ1 : SR) (H1 : Heap) (locs1 : List Loc) (ls1 : Array Slot), LW D ad cA cR adR kk aO cO aM1 aC1 aE1 ov1 σ1 ρ1 s H1 locs1 → Rel σ1 ρ1 → nn σ ≤ nn σ1 → lv_has ls1 8 [(4, .int (nI i)), (0, .ref b), (1, .ref (ad 0)), (2, .ref (adR 35)), (3, .ref aO)] → W p l e room_1 s m args below meth c H1 locs1 (cells + cst σ σ1 + 1) (slots + sst σ σ1 + 6) Q (F0 m 1248 ls1 [])) : W p l e room_1 s m args below meth c H locs cells slots Q (F0 m 411 ls []) := by
  have hwf := hW.2.2.1.nn
  obtain ⟨r, σ', ρ', hc, hr, hrel'⟩ := eq_move hrel (xs (i + 1)) (xs (i + 2))
  refine lv_aload_n S.1 S.2.1 dL_law_411 rfl (lv_at hl 2 rfl) ?_
  refine sc_at (k := 1) (v := 1) S hX hbl hW.2.2.2 hi hL (lv_at hl 0 rfl) (lv_at hl 1 rfl) (by decide) rfl rfl dL_law_412 dL_law_413 dL_law_415 dL_law_416 dL_law_417 ?_
  refine sc_at (k := 2) (v := 2) S hX hbl hW.2.2.2 hi hL (lv_at hl 0 rfl) (lv_at hl 1 rfl) (by decide) rfl rfl dL_law_418 dL_law_419 dL_law_421 dL_law_422 dL_law_423 ?_
  refine kc_ci hF (cC_B_move l D ad cA kk (LA s adR) aM aC aE (xO aO cO ov) hc) (As := [.int (xs (i + 1)), .int (xs (i + 2))]) (rest := []) (k := 2) S hW (gd_V m_570 m_571 m_572 m_2 m_573) (by decide +kernel) ⟨(Nat.le_of_ble_eq_true rfl), (Nat.le_of_ble_eq_true rfl)⟩ rfl hl.1 rfl (Nat.le_of_ble_eq_true rfl) ⟨by show cells ≤ 601024; omega, by show slots ≤ 7293034; omega⟩ dL_law_424 (fun H locs hW => ?_)
  refine lv_aload_n S.1 S.2.1 dL_law_427 rfl (lv_at hl 3 rfl) ?_
  refine sc_at (k := 1) (v := 1) S hX hbl hW.2.2.2 hi hL (lv_at hl 0 rfl) (lv_at hl 1 rfl) (by decide) rfl rfl dL_law_428 dL_law_429 dL_law_431 dL_law_432 dL_law_433 ?_
  refine sc_at (k := 2) (v := 2) S hX hbl hW.2.2.2 hi hL (lv_at hl 0 rfl) (lv_at hl 1 rfl) (by decide) rfl rfl dL_law_434 dL_law_435 dL_law_437 dL_law_438 dL_law_439 ?_
  refine kc_ri hF (cR_move l D adR cR kk hF.1 hr) (As := [.int (xs (i + 1)), .int (xs (i + 2))]) (rest := [.int r]) (k := 2) S hW (gd_V m_596 m_597 m_598 m_5 m_599) (by decide +kernel) ⟨(Nat.le_of_ble_eq_true rfl), (Nat.le_of_ble_eq_true rfl)⟩ rfl hl.1 rfl (Nat.le_of_ble_eq_true rfl) ⟨by show cells ≤ 601024; omega, by show slots ≤ 7293034; omega⟩ dL_law_440 (fun H locs hW => ?_)
  refine lv_icmp_eq (tgt := 1248) S.1 S.2.1 dL_law_443 (by decide) (fun _ => ?_) (fun hne => absurd rfl hne)
  have hle : nn σ ≤ nn σ' := Nat.le_of_eq (kn_B_move σ _ _ _ hc).symm
  refine W.widen (k := cells + cst σ σ' + 1) (n := slots + sst σ σ' + 6) (by omega) (by omega) ?_
  exact kq _ _ _ _ _ _ _ _ ls hW hrel' hle hl
set_option maxRecDepth 100000 in
set_option maxHeartbeats 4000000 in
theorem lk_pay (S : CallFix p m c cL_law 8 s args wsL RL) (hF : LF D cA cR adR kk cO s) (hX : va_X b L xs s s.heap) (hbl : b < s.heap.size) (hi : i + 6 ≤ L) (hL : L ≤ 3072) (hW : LW D ad cA cR adR kk aO cO aM aC aE ov σ ρ s H locs) (hrel : Rel σ ρ) (hl : lv_has ls 8 [(4, .int (nI i)), (0, .ref b), (1, .ref (ad 0)), (2, .ref (adR 35)), (3, .ref aO)]) (hc1 : cells + 2 * (1001 - nn σ) + 1 ≤ 601024) (hc2 : slots + 1300 * (1001 - nn σ) + 6 ≤ 7293034)
    (kq : ∀ (aM1 aC1 aE1 : Nat → Nat) (ov1 : Nat → Int64) (σ1 : SC) (ρ1 : SR) (H1 : Heap) (locs1 : List Loc) (ls1 : Array Slot), LW D ad cA cR adR kk aO cO aM1 aC1 aE1 ov1 σ1 ρ1 s H1 locs1 → Rel σ1 ρ1 → nn σ ≤ nn σ1 → lv_has ls1 8 [(4, .int (nI i)), (0, .ref b), (1, .ref (ad 0)), (2, .ref (adR 35)), (3, .ref aO)] → W p l e room_1 s m args below meth c H1 locs1 (cells + cst σ σ1 + 1) (slots + sst σ σ1 + 6) Q (F0 m 1248 ls1 [])) : W p l e room_1 s m args below meth c H locs cells slots Q (F0 m 448 ls []) := by
  have hwf := hW.2.2.1.nn
  obtain ⟨r, σ', ρ', hc, hr, hrel'⟩ := eq_pay hrel (xs (i + 1)) (xs (i + 2))
  refine lv_aload_n S.1 S.2.1 dL_law_448 rfl (lv_at hl 2 rfl) ?_
  refine sc_at (k := 1) (v := 1) S hX hbl hW.2.2.2 hi hL (lv_at hl 0 rfl) (lv_at hl 1 rfl) (by decide) rfl rfl dL_law_449 dL_law_450 dL_law_452 dL_law_453 dL_law_454 ?_
  refine sc_at (k := 2) (v := 2) S hX hbl hW.2.2.2 hi hL (lv_at hl 0 rfl) (lv_at hl 1 rfl) (by decide) rfl rfl dL_law_455 dL_law_456 dL_law_458 dL_law_459 dL_law_460 ?_
  refine kc_el hF (cC_B_pay l D ad cA kk (LA s adR) aM aC aE (xO aO cO ov) hc) (As := [.int (xs (i + 1)), .int (xs (i + 2))]) (rest := []) (k := 2) S hW (gd_V m_604 m_605 m_606 m_2 m_607) (by decide +kernel) ⟨(Nat.le_of_ble_eq_true rfl), (Nat.le_of_ble_eq_true rfl)⟩ rfl hl.1 rfl (Nat.le_of_ble_eq_true rfl) ⟨by show cells + 2 * (1001 - nn σ) ≤ 601024; omega, by show slots + 1300 * (1001 - nn σ) ≤ 7293034; omega⟩ dL_law_461 (fun aM aC aE H locs hW hle => ?_)
  have hwf' : nn σ' ≤ 1001 := hW.2.2.1.nn
  have hle : nn σ ≤ nn σ' := hle
  refine lv_aload_n S.1 S.2.1 dL_law_464 rfl (lv_at hl 3 rfl) ?_
  refine sc_at (k := 1) (v := 1) S hX hbl hW.2.2.2 hi hL (lv_at hl 0 rfl) (lv_at hl 1 rfl) (by decide) rfl rfl dL_law_465 dL_law_466 dL_law_468 dL_law_469 dL_law_470 ?_
  refine sc_at (k := 2) (v := 2) S hX hbl hW.2.2.2 hi hL (lv_at hl 0 rfl) (lv_at hl 1 rfl) (by decide) rfl rfl dL_law_471 dL_law_472 dL_law_474 dL_law_475 dL_law_476 ?_
  refine kc_rl hF (cR_pay l D adR cR kk hF.1 hr) (As := [.int (xs (i + 1)), .int (xs (i + 2))]) (rest := [.long r]) (k := 2) S hW (gd_V m_624 m_625 m_626 m_5 m_627) (by decide +kernel) ⟨(Nat.le_of_ble_eq_true rfl), (Nat.le_of_ble_eq_true rfl)⟩ rfl hl.1 rfl (Nat.le_of_ble_eq_true rfl) ⟨by show cells + cst σ σ' ≤ 601024; unfold cst; omega, by show slots + sst σ σ' ≤ 7293034; unfold sst; omega⟩ dL_law_477 (fun H locs hW => ?_)
  refine W.lcmp S.1 S.2.1 dL_law_480 ?_
  rw [lg_self]
  refine lv_if_eq (tgt := 1248) S.1 S.2.1 dL_law_481 (by decide) (fun _ => ?_) (fun hne => absurd rfl hne)
  refine W.widen (k := cells + cst σ σ' + 1) (n := slots + sst σ σ' + 6) (by show cells + cst σ σ' ≤ cells + cst σ σ' + 1; omega) (by show slots + sst σ σ' ≤ slots + sst σ σ' + 6; omega) ?_
  exact kq _ _ _ _ _ _ _ _ ls hW hrel' hle hl
set_option maxRecDepth 100000 in
set_option maxHeartbeats 4000000 in
theorem lk_leave (S : CallFix p m c cL_law 8 s args wsL RL) (hF : LF D cA cR adR kk cO s) (hX : va_X b L xs s s.heap) (hbl : b < s.heap.size) (hi : i + 6 ≤ L) (hL : L ≤ 3072) (hW : LW D ad cA cR adR kk aO cO aM aC aE ov σ ρ s H locs) (hrel : Rel σ ρ) (hl : lv_has ls 8 [(4, .int (nI i)), (0, .ref b), (1, .ref (ad 0)), (2, .ref (adR 35)), (3, .ref aO)]) (hc1 : cells + 2 * (1001 - nn σ) + 1 ≤ 601024) (hc2 : slots + 1300 * (1001 - nn σ) + 6 ≤ 7293034)
    (kq : ∀ (aM1 aC1 aE1 : Nat → Nat) (ov1 : Nat → Int64) (σ1 : SC) (ρ1 : SR) (H1 : Heap) (locs1 : List Loc) (ls1 : Array Slot), LW D ad cA cR adR kk aO cO aM1 aC1 aE1 ov1 σ1 ρ1 s H1 locs1 → Rel σ1 ρ1 → nn σ ≤ nn σ1 → lv_has ls1 8 [(4, .int (nI i)), (0, .ref b), (1, .ref (ad 0)), (2, .ref (adR 35)), (3, .ref aO)] → W p l e room_1 s m args below meth c H1 locs1 (cells + cst σ σ1 + 1) (slots + sst σ σ1 + 6) Q (F0 m 1248 ls1 [])) : W p l e room_1 s m args below meth c H locs cells slots Q (F0 m 486 ls []) := by
  have hwf := hW.2.2.1.nn
  obtain ⟨r, σ', ρ', hc, hr, hrel'⟩ := eq_leave hrel (xs (i + 1))
  refine lv_aload_n S.1 S.2.1 dL_law_486 rfl (lv_at hl 2 rfl) ?_
  refine sc_at (k := 1) (v := 1) S hX hbl hW.2.2.2 hi hL (lv_at hl 0 rfl) (lv_at hl 1 rfl) (by decide) rfl rfl dL_law_487 dL_law_488 dL_law_490 dL_law_491 dL_law_492 ?_
  refine kc_el hF (cC_B_leave l D ad cA kk (LA s adR) aM aC aE (xO aO cO ov) hc) (As := [.int (xs (i + 1))]) (rest := []) (k := 1) S hW (gd_V m_637 m_638 m_639 m_2 m_640) (by decide +kernel) ⟨(Nat.le_of_ble_eq_true rfl), (Nat.le_of_ble_eq_true rfl)⟩ rfl hl.1 rfl (Nat.le_of_ble_eq_true rfl) ⟨by show cells + 2 * (1001 - nn σ) ≤ 601024; omega, by show slots + 1300 * (1001 - nn σ) ≤ 7293034; omega⟩ dL_law_493 (fun aM aC aE H locs hW hle => ?_)
  have hwf' : nn σ' ≤ 1001 := hW.2.2.1.nn
  have hle : nn σ ≤ nn σ' := hle
  refine lv_aload_n S.1 S.2.1 dL_law_496 rfl (lv_at hl 3 rfl) ?_
  refine sc_at (k := 1) (v := 1) S hX hbl hW.2.2.2 hi hL (lv_at hl 0 rfl) (lv_at hl 1 rfl) (by decide) rfl rfl dL_law_497 dL_law_498 dL_law_500 dL_law_501 dL_law_502 ?_
  refine kc_rl hF (cR_leave l D adR cR kk hF.1 hr) (As := [.int (xs (i + 1))]) (rest := [.long r]) (k := 1) S hW (gd_V m_646 m_647 m_648 m_5 m_649) (by decide +kernel) ⟨(Nat.le_of_ble_eq_true rfl), (Nat.le_of_ble_eq_true rfl)⟩ rfl hl.1 rfl (Nat.le_of_ble_eq_true rfl) ⟨by show cells + cst σ σ' ≤ 601024; unfold cst; omega, by show slots + sst σ σ' ≤ 7293034; unfold sst; omega⟩ dL_law_503 (fun H locs hW => ?_)
  refine W.lcmp S.1 S.2.1 dL_law_506 ?_
  rw [lg_self]
  refine lv_if_eq (tgt := 1248) S.1 S.2.1 dL_law_507 (by decide) (fun _ => ?_) (fun hne => absurd rfl hne)
  refine W.widen (k := cells + cst σ σ' + 1) (n := slots + sst σ σ' + 6) (by show cells + cst σ σ' ≤ cells + cst σ σ' + 1; omega) (by show slots + sst σ σ' ≤ slots + sst σ σ' + 6; omega) ?_
  exact kq _ _ _ _ _ _ _ _ ls hW hrel' hle hl
set_option maxRecDepth 100000 in
set_option maxHeartbeats 4000000 in
theorem lk_choice (S : CallFix p m c cL_law 8 s args wsL RL) (hF : LF D cA cR adR kk cO s) (hX : va_X b L xs s s.heap) (hbl : b < s.heap.size) (hi : i + 6 ≤ L) (hL : L ≤ 3072) (hW : LW D ad cA cR adR kk aO cO aM aC aE ov σ ρ s H locs) (hrel : Rel σ ρ) (hl : lv_has ls 8 [(4, .int (nI i)), (0, .ref b), (1, .ref (ad 0)), (2, .ref (adR 35)), (3, .ref aO)]) (hc1 : cells + 2 * (1001 - nn σ) + 1 ≤ 601024) (hc2 : slots + 1300 * (1001 - nn σ) + 6 ≤ 7293034)
    (kq : ∀ (aM1 aC1 aE1 : Nat → Nat) (ov1 : Nat → Int64) (σ1 : SC) (ρ1 : SR) (H1 : Heap) (locs1 : List Loc) (ls1 : Array Slot), LW D ad cA cR adR kk aO cO aM1 aC1 aE1 ov1 σ1 ρ1 s H1 locs1 → Rel σ1 ρ1 → nn σ ≤ nn σ1 → lv_has ls1 8 [(4, .int (nI i)), (0, .ref b), (1, .ref (ad 0)), (2, .ref (adR 35)), (3, .ref aO)] → W p l e room_1 s m args below meth c H1 locs1 (cells + cst σ σ1 + 1) (slots + sst σ σ1 + 6) Q (F0 m 1248 ls1 [])) : W p l e room_1 s m args below meth c H locs cells slots Q (F0 m 579 ls []) := by
  have hwf := hW.2.2.1.nn
  obtain ⟨r, σ', ρ', hc, hr, hrel'⟩ := eq_choice hrel (xs (i + 1)) (xs (i + 2))
  refine lv_aload_n S.1 S.2.1 dL_law_579 rfl (lv_at hl 2 rfl) ?_
  refine sc_at (k := 1) (v := 1) S hX hbl hW.2.2.2 hi hL (lv_at hl 0 rfl) (lv_at hl 1 rfl) (by decide) rfl rfl dL_law_580 dL_law_581 dL_law_583 dL_law_584 dL_law_585 ?_
  refine sc_at (k := 2) (v := 2) S hX hbl hW.2.2.2 hi hL (lv_at hl 0 rfl) (lv_at hl 1 rfl) (by decide) rfl rfl dL_law_586 dL_law_587 dL_law_589 dL_law_590 dL_law_591 ?_
  refine kc_ci hF (cC_B_choice l D ad cA kk (LA s adR) aM aC aE (xO aO cO ov) hc) (As := [.int (xs (i + 1)), .int (xs (i + 2))]) (rest := []) (k := 2) S hW (gd_V m_670 m_671 m_672 m_2 m_673) (by decide +kernel) ⟨(Nat.le_of_ble_eq_true rfl), (Nat.le_of_ble_eq_true rfl)⟩ rfl hl.1 rfl (Nat.le_of_ble_eq_true rfl) ⟨by show cells ≤ 601024; omega, by show slots ≤ 7293034; omega⟩ dL_law_592 (fun H locs hW => ?_)
  refine lv_aload_n S.1 S.2.1 dL_law_595 rfl (lv_at hl 3 rfl) ?_
  refine sc_at (k := 1) (v := 1) S hX hbl hW.2.2.2 hi hL (lv_at hl 0 rfl) (lv_at hl 1 rfl) (by decide) rfl rfl dL_law_596 dL_law_597 dL_law_599 dL_law_600 dL_law_601 ?_
  refine sc_at (k := 2) (v := 2) S hX hbl hW.2.2.2 hi hL (lv_at hl 0 rfl) (lv_at hl 1 rfl) (by decide) rfl rfl dL_law_602 dL_law_603 dL_law_605 dL_law_606 dL_law_607 ?_
  refine kc_ri hF (cR_choice l D adR cR kk hF.1 hr) (As := [.int (xs (i + 1)), .int (xs (i + 2))]) (rest := [.int r]) (k := 2) S hW (gd_V m_685 m_686 m_687 m_5 m_688) (by decide +kernel) ⟨(Nat.le_of_ble_eq_true rfl), (Nat.le_of_ble_eq_true rfl)⟩ rfl hl.1 rfl (Nat.le_of_ble_eq_true rfl) ⟨by show cells ≤ 601024; omega, by show slots ≤ 7293034; omega⟩ dL_law_608 (fun H locs hW => ?_)
  refine lv_icmp_eq (tgt := 1248) S.1 S.2.1 dL_law_611 (by decide) (fun _ => ?_) (fun hne => absurd rfl hne)
  have hle : nn σ ≤ nn σ' := Nat.le_of_eq (kn_B_choice σ _ _ _ hc).symm
  refine W.widen (k := cells + cst σ σ' + 1) (n := slots + sst σ σ' + 6) (by omega) (by omega) ?_
  exact kq _ _ _ _ _ _ _ _ ls hW hrel' hle hl
set_option maxRecDepth 100000 in
set_option maxHeartbeats 4000000 in
theorem lk_refuse (S : CallFix p m c cL_law 8 s args wsL RL) (hF : LF D cA cR adR kk cO s) (hX : va_X b L xs s s.heap) (hbl : b < s.heap.size) (hi : i + 6 ≤ L) (hL : L ≤ 3072) (hW : LW D ad cA cR adR kk aO cO aM aC aE ov σ ρ s H locs) (hrel : Rel σ ρ) (hl : lv_has ls 8 [(4, .int (nI i)), (0, .ref b), (1, .ref (ad 0)), (2, .ref (adR 35)), (3, .ref aO)]) (hc1 : cells + 2 * (1001 - nn σ) + 1 ≤ 601024) (hc2 : slots + 1300 * (1001 - nn σ) + 6 ≤ 7293034)
    (kq : ∀ (aM1 aC1 aE1 : Nat → Nat) (ov1 : Nat → Int64) (σ1 : SC) (ρ1 : SR) (H1 : Heap) (locs1 : List Loc) (ls1 : Array Slot), LW D ad cA cR adR kk aO cO aM1 aC1 aE1 ov1 σ1 ρ1 s H1 locs1 → Rel σ1 ρ1 → nn σ ≤ nn σ1 → lv_has ls1 8 [(4, .int (nI i)), (0, .ref b), (1, .ref (ad 0)), (2, .ref (adR 35)), (3, .ref aO)] → W p l e room_1 s m args below meth c H1 locs1 (cells + cst σ σ1 + 1) (slots + sst σ σ1 + 6) Q (F0 m 1248 ls1 [])) : W p l e room_1 s m args below meth c H locs cells slots Q (F0 m 616 ls []) := by
  have hwf := hW.2.2.1.nn
  obtain ⟨r, σ', ρ', hc, hr, hrel'⟩ := eq_refuse hrel (xs (i + 1)) (xs (i + 2))
  refine lv_aload_n S.1 S.2.1 dL_law_616 rfl (lv_at hl 2 rfl) ?_
  refine sc_at (k := 1) (v := 1) S hX hbl hW.2.2.2 hi hL (lv_at hl 0 rfl) (lv_at hl 1 rfl) (by decide) rfl rfl dL_law_617 dL_law_618 dL_law_620 dL_law_621 dL_law_622 ?_
  refine sc_at (k := 2) (v := 2) S hX hbl hW.2.2.2 hi hL (lv_at hl 0 rfl) (lv_at hl 1 rfl) (by decide) rfl rfl dL_law_623 dL_law_624 dL_law_626 dL_law_627 dL_law_628 ?_
  refine kc_ci hF (cC_B_refuse l D ad cA kk (LA s adR) aM aC aE (xO aO cO ov) hc) (As := [.int (xs (i + 1)), .int (xs (i + 2))]) (rest := []) (k := 2) S hW (gd_V m_689 m_690 m_691 m_2 m_692) (by decide +kernel) ⟨(Nat.le_of_ble_eq_true rfl), (Nat.le_of_ble_eq_true rfl)⟩ rfl hl.1 rfl (Nat.le_of_ble_eq_true rfl) ⟨by show cells ≤ 601024; omega, by show slots ≤ 7293034; omega⟩ dL_law_629 (fun H locs hW => ?_)
  refine lv_aload_n S.1 S.2.1 dL_law_632 rfl (lv_at hl 3 rfl) ?_
  refine sc_at (k := 1) (v := 1) S hX hbl hW.2.2.2 hi hL (lv_at hl 0 rfl) (lv_at hl 1 rfl) (by decide) rfl rfl dL_law_633 dL_law_634 dL_law_636 dL_law_637 dL_law_638 ?_
  refine sc_at (k := 2) (v := 2) S hX hbl hW.2.2.2 hi hL (lv_at hl 0 rfl) (lv_at hl 1 rfl) (by decide) rfl rfl dL_law_639 dL_law_640 dL_law_642 dL_law_643 dL_law_644 ?_
  refine kc_ri hF (cR_refuse l D adR cR kk hF.1 hr) (As := [.int (xs (i + 1)), .int (xs (i + 2))]) (rest := [.int r]) (k := 2) S hW (gd_V m_701 m_702 m_703 m_5 m_704) (by decide +kernel) ⟨(Nat.le_of_ble_eq_true rfl), (Nat.le_of_ble_eq_true rfl)⟩ rfl hl.1 rfl (Nat.le_of_ble_eq_true rfl) ⟨by show cells ≤ 601024; omega, by show slots ≤ 7293034; omega⟩ dL_law_645 (fun H locs hW => ?_)
  refine lv_icmp_eq (tgt := 1248) S.1 S.2.1 dL_law_648 (by decide) (fun _ => ?_) (fun hne => absurd rfl hne)
  have hle : nn σ ≤ nn σ' := Nat.le_of_eq (kn_B_refuse σ _ _ _ hc).symm
  refine W.widen (k := cells + cst σ σ' + 1) (n := slots + sst σ σ' + 6) (by omega) (by omega) ?_
  exact kq _ _ _ _ _ _ _ _ ls hW hrel' hle hl
end LC
