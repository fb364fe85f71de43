theorem and31 (v : Int32) : ∃ k : Nat, k < 32 ∧ v &&& 31 = nI k := by
  refine ⟨(v &&& 31).toBitVec.toNat, ?_, ?_⟩
  · have h : (v &&& 31).toBitVec = v.toBitVec &&& 31#32 := rfl
    rw [h, BitVec.toNat_and]
    exact Nat.lt_of_le_of_lt Nat.and_le_right (by decide)
  · apply Int32.toBitVec_inj.mp
    show _ = BitVec.ofNat 32 _
    rw [BitVec.ofNat_toNat, BitVec.setWidth_eq]
theorem nI_m6 {L : Nat} (h : 6 ≤ L) : nI L - 6 = nI (L - 6) := by
  have h1 : nI (L - 6) + nI 6 = nI L := by rw [nI_add]; congr 1; omega
  rw [← h1]
  exact Int32.add_sub_cancel ..
theorem nI_m6n {L i : Nat} (h : L < 6) (hi : i < 2 ^ 31) : nI L - 6 < nI i := by
  have h0 : nI L - 6 < 0 := by
    have h1 : L = 0 ∨ L = 1 ∨ L = 2 ∨ L = 3 ∨ L = 4 ∨ L = 5 := by omega
    rcases h1 with rfl | rfl | rfl | rfl | rfl | rfl <;> decide
  exact Int32.lt_of_lt_of_le h0 (nI_pos' hi)
section LL
variable {p : Program} {l : Launch} {e : Env} {s : State} {m : MethodId} {args : Array Value} {below : List Frame} {meth : Method} {c : Code} {H : Heap} {locs : List Loc} {Q : State → Prop} {ls : Array Slot} {b L i cells slots : Nat} {xs : Nat → Int32}
variable {D : va_G} {ad : Nat → Nat} {cA cR : Nat → ClassId} {adR kk : Nat → Nat} {aO : Nat} {cO : ClassId} {aM aC aE : Nat → Nat} {ov : Nat → Int64} {σ : SC} {ρ : SR}
set_option maxRecDepth 100000 in
set_option maxHeartbeats 4000000 in
theorem lk_loop (hst : l.stackTraces = false) (S : CallFix p m c cL_law 8 s args wsL RL) (hF : LF D cA cR adR kk cO s) (hX : va_X b L xs s s.heap) (hbl : b < s.heap.size) (hL : L ≤ 3072)
    (kend : ∀ (H : Heap) (locs : List Loc) (ls : Array Slot) (cells slots : Nat), cells ≤ 601024 → slots ≤ 7293034 → va_S (L0 s) s.heap H locs → W p l e room_1 s m args below meth c H locs cells slots Q (F0 m 1254 ls [])) :
    ∀ (d i : Nat), L < i + 6 + 6 * d → i ≤ 3072 → ∀ (aM aC aE : Nat → Nat) (ov : Nat → Int64) (σ : SC) (ρ : SR) (H : Heap) (locs : List Loc) (ls : Array Slot), LW D ad cA cR adR kk aO cO aM aC aE ov σ ρ s H locs → Rel σ ρ → lv_has ls 8 [(4, .int (nI i)), (0, .ref b), (1, .ref (ad 0)), (2, .ref (adR 35)), (3, .ref aO)] → W p l e room_1 s m args below meth c H locs (100 + 2 * nn σ + i) (20000 + 1300 * nn σ + 6 * i) Q (F0 m 23 ls []) := by
  intro d
  induction d with
  | zero =>
    intro i hd hi' aM aC aE ov σ ρ H locs ls hW hrel hl
    have hwf := hW.2.2.1.nn
    refine lv_iload S.1 S.2.1 dL_law_23 (lv_at hl 0 rfl) ?_
    refine lv_aload_n S.1 S.2.1 dL_law_25 rfl (lv_at hl 1 rfl) ?_
    refine va_slen (A := L0 s) S.1 S.2.1 hX hbl (Nat.not_le.mpr hbl) hW.2.2.2 dL_law_26 ?_
    refine lv_bipush (v := (6 : Int32)) S.1 S.2.1 dL_law_27 (by decide) ?_
    refine lv_isub S.1 S.2.1 dL_law_29 ?_
    refine lv_icmp_gt (tgt := 1254) S.1 S.2.1 dL_law_30 (by decide) (fun _ => kend _ _ _ _ _ (by omega) (by omega) hW.2.2.2) (fun hc => absurd ?_ hc)
    show nI L - 6 < nI i
    by_cases h6 : 6 ≤ L
    · rw [nI_m6 h6]; exact nI_lt (by omega) (by omega)
    · exact nI_m6n (by omega) (by omega)
  | succ d ih =>
    intro i hd hi' aM aC aE ov σ ρ H locs ls hW hrel hl
    have hwf := hW.2.2.1.nn
    refine lv_iload S.1 S.2.1 dL_law_23 (lv_at hl 0 rfl) ?_
    refine lv_aload_n S.1 S.2.1 dL_law_25 rfl (lv_at hl 1 rfl) ?_
    refine va_slen (A := L0 s) S.1 S.2.1 hX hbl (Nat.not_le.mpr hbl) hW.2.2.2 dL_law_26 ?_
    refine lv_bipush (v := (6 : Int32)) S.1 S.2.1 dL_law_27 (by decide) ?_
    refine lv_isub S.1 S.2.1 dL_law_29 ?_
    refine lv_icmp_gt (tgt := 1254) S.1 S.2.1 dL_law_30 (by decide) (fun _ => kend _ _ _ _ _ (by omega) (by omega) hW.2.2.2) (fun hc => ?_)
    have hi : i + 6 ≤ L := by
      by_cases h6 : i + 6 ≤ L
      · exact h6
      · exfalso
        apply hc
        show nI L - 6 < nI i
        by_cases h7 : 6 ≤ L
        · rw [nI_m6 h7]; exact nI_lt (by omega) (by omega)
        · exact nI_m6n (by omega) (by omega)
    have kq : ∀ (aM1 aC1 aE1 : Nat → Nat) (ov1 : Nat → Int64) (σ1 : SC) (ρ1 : SR) (H1 : Heap) (locs1 : List Loc) (ls1 : Array Slot), LW D ad cA cR adR kk aO cO aM1 aC1 aE1 ov1 σ1 ρ1 s H1 locs1 → Rel σ1 ρ1 → nn σ ≤ nn σ1 → lv_has ls1 8 [(4, .int (nI i)), (0, .ref b), (1, .ref (ad 0)), (2, .ref (adR 35)), (3, .ref aO)] → W p l e room_1 s m args below meth c H1 locs1 (100 + 2 * nn σ + i + cst σ σ1 + 1) (20000 + 1300 * nn σ + 6 * i + sst σ σ1 + 6) Q (F0 m 1248 ls1 []) := by
      intro aM1 aC1 aE1 ov1 σ1 ρ1 H1 locs1 ls1 hW1 hrel1 hle hl1
      refine lv_iinc (v := nI (i + 6)) (lv' := [(4, .int (nI (i + 6))), (0, .ref b), (1, .ref (ad 0)), (2, .ref (adR 35)), (3, .ref aO)]) S.1 S.2.1 dL_law_1248 hl1 (k := 0) rfl (nI_add i 6) (by decide) rfl (fun ls hl => ?_)
      refine lv_goto (tgt := 23) S.1 S.2.1 dL_law_1251 (by decide) ?_
      refine W.widen (k := 100 + 2 * nn σ1 + (i + 6)) (n := 20000 + 1300 * nn σ1 + 6 * (i + 6)) (by unfold cst; omega) (by unfold sst; omega) ?_
      exact ih (i + 6) (by omega) (by omega) aM1 aC1 aE1 ov1 σ1 ρ1 H1 locs1 ls hW1 hrel1 hl
    have hc1 : 100 + 2 * nn σ + i + 2 * (1001 - nn σ) + 1 ≤ 601024 := by omega
    have hc2 : 20000 + 1300 * nn σ + 6 * i + 1300 * (1001 - nn σ) + 6 ≤ 7293034 := by omega
    refine lv_aload_n S.1 S.2.1 dL_law_33 rfl (lv_at hl 1 rfl) ?_
    refine lv_iload S.1 S.2.1 dL_law_34 (lv_at hl 0 rfl) ?_
    refine va_sld (A := L0 s) S.1 S.2.1 hX hbl (Nat.not_le.mpr hbl) hW.2.2.2 (nI_in (by omega) (by omega)) dL_law_36 ?_
    refine lv_bipush (v := (31 : Int32)) S.1 S.2.1 dL_law_37 (by decide) ?_
    refine lv_iand S.1 S.2.1 dL_law_39 ?_
    obtain ⟨k, hk, e31⟩ := and31 (xs (nI i).toNatClampNeg)
    rw [e31]
    by_cases h0 : k = 0
    · subst h0
      refine lv_tableIn (x := nI 0) (tgt := 164) S.1 S.2.1 dL_law_40 (by decide) (by decide) rfl (by decide) ?_
      exact lk_feed S hF hX hbl hi hL hW hrel hl hc1 hc2 kq
    by_cases h1 : k = 1
    · subst h1
      refine lv_tableIn (x := nI 1) (tgt := 237) S.1 S.2.1 dL_law_40 (by decide) (by decide) rfl (by decide) ?_
      exact lk_end S hF hX hbl hi hL hW hrel hl hc1 hc2 kq
    by_cases h2 : k = 2
    · subst h2
      refine lv_tableIn (x := nI 2) (tgt := 262) S.1 S.2.1 dL_law_40 (by decide) (by decide) rfl (by decide) ?_
      exact lk_rules S hF hX hbl hi hL hW hrel hl hc1 hc2 kq
    by_cases h3 : k = 3
    · subst h3
      refine lv_tableIn (x := nI 3) (tgt := 275) S.1 S.2.1 dL_law_40 (by decide) (by decide) rfl (by decide) ?_
      exact lk_fault S hF hX hbl hi hL hW hrel hl hc1 hc2 kq
    by_cases h4 : k = 4
    · subst h4
      refine lv_tableIn (x := nI 4) (tgt := 300) S.1 S.2.1 dL_law_40 (by decide) (by decide) rfl (by decide) ?_
      exact lk_rule S hF hX hbl hi hL hW hrel hl hc1 hc2 kq
    by_cases h5 : k = 5
    · subst h5
      refine lv_tableIn (x := nI 5) (tgt := 337) S.1 S.2.1 dL_law_40 (by decide) (by decide) rfl (by decide) ?_
      exact lk_lag S hF hX hbl hi hL hW hrel hl hc1 hc2 kq
    by_cases h6 : k = 6
    · subst h6
      refine lv_tableIn (x := nI 6) (tgt := 374) S.1 S.2.1 dL_law_40 (by decide) (by decide) rfl (by decide) ?_
      exact lk_join S hF hX hbl hi hL hW hrel hl hc1 hc2 kq
    by_cases h7 : k = 7
    · subst h7
      refine lv_tableIn (x := nI 7) (tgt := 411) S.1 S.2.1 dL_law_40 (by decide) (by decide) rfl (by decide) ?_
      exact lk_move S hF hX hbl hi hL hW hrel hl hc1 hc2 kq
    by_cases h8 : k = 8
    · subst h8
      refine lv_tableIn (x := nI 8) (tgt := 448) S.1 S.2.1 dL_law_40 (by decide) (by decide) rfl (by decide) ?_
      exact lk_pay S hF hX hbl hi hL hW hrel hl hc1 hc2 kq
    by_cases h9 : k = 9
    · subst h9
      refine lv_tableIn (x := nI 9) (tgt := 486) S.1 S.2.1 dL_law_40 (by decide) (by decide) rfl (by decide) ?_
      exact lk_leave S hF hX hbl hi hL hW hrel hl hc1 hc2 kq
    by_cases h10 : k = 10
    · subst h10
      refine lv_tableIn (x := nI 10) (tgt := 512) S.1 S.2.1 dL_law_40 (by decide) (by decide) rfl (by decide) ?_
      exact lk_member hst S hF hX hbl hi hL hW hrel hl hc1 hc2 kq
    by_cases h11 : k = 11
    · subst h11
      refine lv_tableIn (x := nI 11) (tgt := 579) S.1 S.2.1 dL_law_40 (by decide) (by decide) rfl (by decide) ?_
      exact lk_choice S hF hX hbl hi hL hW hrel hl hc1 hc2 kq
    by_cases h12 : k = 12
    · subst h12
      refine lv_tableIn (x := nI 12) (tgt := 616) S.1 S.2.1 dL_law_40 (by decide) (by decide) rfl (by decide) ?_
      exact lk_refuse S hF hX hbl hi hL hW hrel hl hc1 hc2 kq
    by_cases h13 : k = 13
    · subst h13
      refine lv_tableIn (x := nI 13) (tgt := 653) S.1 S.2.1 dL_law_40 (by decide) (by decide) rfl (by decide) ?_
      exact lk_close S hF hX hbl hi hL hW hrel hl hc1 hc2 kq
    by_cases h14 : k = 14
    · subst h14
      refine lv_tableIn (x := nI 14) (tgt := 666) S.1 S.2.1 dL_law_40 (by decide) (by decide) rfl (by decide) ?_
      exact lk_clear S hF hX hbl hi hL hW hrel hl hc1 hc2 kq
    by_cases h15 : k = 15
    · subst h15
      refine lv_tableIn (x := nI 15) (tgt := 715) S.1 S.2.1 dL_law_40 (by decide) (by decide) rfl (by decide) ?_
      exact lk_book S hF hX hbl hi hL hW hrel hl hc1 hc2 kq
    by_cases h16 : k = 16
    · subst h16
      refine lv_tableIn (x := nI 16) (tgt := 752) S.1 S.2.1 dL_law_40 (by decide) (by decide) rfl (by decide) ?_
      exact lk_count S hF hX hbl hi hL hW hrel hl hc1 hc2 kq
    by_cases h17 : k = 17
    · subst h17
      refine lv_tableIn (x := nI 17) (tgt := 777) S.1 S.2.1 dL_law_40 (by decide) (by decide) rfl (by decide) ?_
      exact lk_entry hst S hF hX hbl hi hL hW hrel hl hc1 hc2 kq
    by_cases h18 : k = 18
    · subst h18
      refine lv_tableIn (x := nI 18) (tgt := 844) S.1 S.2.1 dL_law_40 (by decide) (by decide) rfl (by decide) ?_
      exact lk_strike S hF hX hbl hi hL hW hrel hl hc1 hc2 kq
    by_cases h19 : k = 19
    · subst h19
      refine lv_tableIn (x := nI 19) (tgt := 869) S.1 S.2.1 dL_law_40 (by decide) (by decide) rfl (by decide) ?_
      exact lk_balance hst S hF hX hbl hi hL hW hrel hl hc1 hc2 kq
    by_cases h20 : k = 20
    · subst h20
      refine lv_tableIn (x := nI 20) (tgt := 948) S.1 S.2.1 dL_law_40 (by decide) (by decide) rfl (by decide) ?_
      exact lk_chance S hF hX hbl hi hL hW hrel hl hc1 hc2 kq
    by_cases h21 : k = 21
    · subst h21
      refine lv_tableIn (x := nI 21) (tgt := 985) S.1 S.2.1 dL_law_40 (by decide) (by decide) rfl (by decide) ?_
      exact lk_ways S hF hX hbl hi hL hW hrel hl hc1 hc2 kq
    by_cases h22 : k = 22
    · subst h22
      refine lv_tableIn (x := nI 22) (tgt := 1035) S.1 S.2.1 dL_law_40 (by decide) (by decide) rfl (by decide) ?_
      exact lk_print S hF hX hbl hi hL hW hrel hl hc1 hc2 kq
    by_cases h23 : k = 23
    · subst h23
      refine lv_tableIn (x := nI 23) (tgt := 1096) S.1 S.2.1 dL_law_40 (by decide) (by decide) rfl (by decide) ?_
      exact lk_mark S hF hX hbl hi hL hW hrel hl hc1 hc2 kq
    by_cases h24 : k = 24
    · subst h24
      refine lv_tableIn (x := nI 24) (tgt := 1145) S.1 S.2.1 dL_law_40 (by decide) (by decide) rfl (by decide) ?_
      exact lk_kin S hF hX hbl hi hL hW hrel hl hc1 hc2 kq
    by_cases h25 : k = 25
    · subst h25
      refine lv_tableIn (x := nI 25) (tgt := 1210) S.1 S.2.1 dL_law_40 (by decide) (by decide) rfl (by decide) ?_
      exact lk_middle S hF hX hbl hi hL hW hrel hl hc1 hc2 kq
    by_cases h26 : k = 26
    · subst h26
      refine lv_tableIn (x := nI 26) (tgt := 1235) S.1 S.2.1 dL_law_40 (by decide) (by decide) rfl (by decide) ?_
      exact lk_winner S hF hX hbl hi hL hW hrel hl hc1 hc2 kq
    refine lv_tableOut (x := nI k) (tgt := 1248) S.1 S.2.1 dL_law_40 (Or.inr (by rw [nI_toInt (by omega)]; omega)) (by decide) ?_
    refine W.widen (k := 100 + 2 * nn σ + i + cst σ σ + 1) (n := 20000 + 1300 * nn σ + 6 * i + sst σ σ + 6) (by omega) (by omega) ?_
    exact kq _ _ _ _ _ _ _ _ ls hW hrel (Nat.le_refl _) hl
end LL
