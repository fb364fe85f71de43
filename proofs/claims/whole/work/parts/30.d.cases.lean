section LC2
variable {p : Program} {l : Launch} {e : Env} {s : State} {m : MethodId} {args : Array Value} {below : List Frame} {meth : Method} {c : Code} {H : Heap} {locs : List Loc} {Q : State → Prop} {ls : Array Slot} {b L i cells slots : Nat} {xs : Nat → Int32}
variable {D : va_G} {ad : Nat → Nat} {cA cR : Nat → ClassId} {adR kk : Nat → Nat} {aO : Nat} {cO : ClassId} {aM aC aE : Nat → Nat} {ov : Nat → Int64} {σ : SC} {ρ : SR}
set_option maxRecDepth 100000 in
set_option maxHeartbeats 4000000 in
theorem lk_close (S : CallFix p m c cL_law 8 s args wsL RL) (hF : LF D cA cR adR kk cO s) (hX : va_X b L xs s s.heap) (hbl : b < s.heap.size) (hi : i + 6 ≤ L) (hL : L ≤ 3072) (hW : LW D ad cA cR adR kk aO cO aM aC aE ov σ ρ s H locs) (hrel : Rel σ ρ) (hl : lv_has ls 8 [(4, .int (nI i)), (0, .ref b), (1, .ref (ad 0)), (2, .ref (adR 35)), (3, .ref aO)]) (hc1 : cells + 2 * (1001 - nn σ) + 1 ≤ 601024) (hc2 : slots + 1300 * (1001 - nn σ) + 6 ≤ 7293034)
    (kq : ∀ (aM1 aC1 aE1 : Nat → Nat) (ov1 : Nat → Int64) (σ1 : SC) (ρ1 : SR) (H1 : Heap) (locs1 : List Loc) (ls1 : Array Slot), LW D ad cA cR adR kk aO cO aM1 aC1 aE1 ov1 σ1 ρ1 s H1 locs1 → Rel σ1 ρ1 → nn σ ≤ nn σ1 → lv_has ls1 8 [(4, .int (nI i)), (0, .ref b), (1, .ref (ad 0)), (2, .ref (adR 35)), (3, .ref aO)] → W p l e room_1 s m args below meth c H1 locs1 (cells + cst σ σ1 + 1) (slots + sst σ σ1 + 6) Q (F0 m 1248 ls1 [])) : W p l e room_1 s m args below meth c H locs cells slots Q (F0 m 653 ls []) := by
  have hwf := hW.2.2.1.nn
  obtain ⟨r, σ', ρ', hc, hr, hrel'⟩ := eq_close hrel 
  refine lv_aload_n S.1 S.2.1 dL_law_653 rfl (lv_at hl 2 rfl) ?_
  refine kc_ei hF (cC_B_close l D ad cA kk (LA s adR) aM aC aE (xO aO cO ov) hc) (As := []) (rest := []) (k := 0) S hW (gd_V m_705 m_706 m_707 m_2 m_708) (by decide +kernel) ⟨(Nat.le_of_ble_eq_true rfl), (Nat.le_of_ble_eq_true rfl)⟩ rfl hl.1 rfl (Nat.le_of_ble_eq_true rfl) ⟨by show cells + 2 * (1001 - nn σ) ≤ 601024; omega, by show slots + 1300 * (1001 - nn σ) ≤ 7293034; omega⟩ dL_law_654 (fun aM aC aE H locs hW hle => ?_)
  have hwf' : nn σ' ≤ 1001 := hW.2.2.1.nn
  have hle : nn σ ≤ nn σ' := hle
  refine lv_aload_n S.1 S.2.1 dL_law_657 rfl (lv_at hl 3 rfl) ?_
  refine kc_ri hF (cR_close l D adR cR kk hF.1 hr) (As := []) (rest := [.int r]) (k := 0) S hW (gd_V m_767 m_768 m_769 m_5 m_770) (by decide +kernel) ⟨(Nat.le_of_ble_eq_true rfl), (Nat.le_of_ble_eq_true rfl)⟩ rfl hl.1 rfl (Nat.le_of_ble_eq_true rfl) ⟨by show cells + cst σ σ' ≤ 601024; unfold cst; omega, by show slots + sst σ σ' ≤ 7293034; unfold sst; omega⟩ dL_law_658 (fun H locs hW => ?_)
  refine lv_icmp_eq (tgt := 1248) S.1 S.2.1 dL_law_661 (by decide) (fun _ => ?_) (fun hne => absurd rfl hne)
  refine W.widen (k := cells + cst σ σ' + 1) (n := slots + sst σ σ' + 6) (by show cells + cst σ σ' ≤ cells + cst σ σ' + 1; omega) (by show slots + sst σ σ' ≤ slots + sst σ σ' + 6; omega) ?_
  exact kq _ _ _ _ _ _ _ _ ls hW hrel' hle hl
set_option maxRecDepth 100000 in
set_option maxHeartbeats 4000000 in
theorem lk_clear (S : CallFix p m c cL_law 8 s args wsL RL) (hF : LF D cA cR adR kk cO s) (hX : va_X b L xs s s.heap) (hbl : b < s.heap.size) (hi : i + 6 ≤ L) (hL : L ≤ 3072) (hW : LW D ad cA cR adR kk aO cO aM aC aE ov σ ρ s H locs) (hrel : Rel σ ρ) (hl : lv_has ls 8 [(4, .int (nI i)), (0, .ref b), (1, .ref (ad 0)), (2, .ref (adR 35)), (3, .ref aO)]) (hc1 : cells + 2 * (1001 - nn σ) + 1 ≤ 601024) (hc2 : slots + 1300 * (1001 - nn σ) + 6 ≤ 7293034)
    (kq : ∀ (aM1 aC1 aE1 : Nat → Nat) (ov1 : Nat → Int64) (σ1 : SC) (ρ1 : SR) (H1 : Heap) (locs1 : List Loc) (ls1 : Array Slot), LW D ad cA cR adR kk aO cO aM1 aC1 aE1 ov1 σ1 ρ1 s H1 locs1 → Rel σ1 ρ1 → nn σ ≤ nn σ1 → lv_has ls1 8 [(4, .int (nI i)), (0, .ref b), (1, .ref (ad 0)), (2, .ref (adR 35)), (3, .ref aO)] → W p l e room_1 s m args below meth c H1 locs1 (cells + cst σ σ1 + 1) (slots + sst σ σ1 + 6) Q (F0 m 1248 ls1 [])) : W p l e room_1 s m args below meth c H locs cells slots Q (F0 m 666 ls []) := by
  have hwf := hW.2.2.1.nn
  obtain ⟨r, σ', ρ', hc, hr, hrel'⟩ := eq_clear hrel (xs (i + 1)) (xs (i + 2)) (xs (i + 3))
  refine lv_aload_n S.1 S.2.1 dL_law_666 rfl (lv_at hl 2 rfl) ?_
  refine sc_at (k := 1) (v := 1) S hX hbl hW.2.2.2 hi hL (lv_at hl 0 rfl) (lv_at hl 1 rfl) (by decide) rfl rfl dL_law_667 dL_law_668 dL_law_670 dL_law_671 dL_law_672 ?_
  refine sc_at (k := 2) (v := 2) S hX hbl hW.2.2.2 hi hL (lv_at hl 0 rfl) (lv_at hl 1 rfl) (by decide) rfl rfl dL_law_673 dL_law_674 dL_law_676 dL_law_677 dL_law_678 ?_
  refine sc_at (k := 3) (v := 3) S hX hbl hW.2.2.2 hi hL (lv_at hl 0 rfl) (lv_at hl 1 rfl) (by decide) rfl rfl dL_law_679 dL_law_680 dL_law_682 dL_law_683 dL_law_684 ?_
  refine kc_ci hF (cC_B_clear l D ad cA kk (LA s adR) aM aC aE (xO aO cO ov) hc) (As := [.int (xs (i + 1)), .int (xs (i + 2)), .int (xs (i + 3))]) (rest := []) (k := 3) S hW (gd_V m_783 m_784 m_785 m_2 m_786) (by decide +kernel) ⟨(Nat.le_of_ble_eq_true rfl), (Nat.le_of_ble_eq_true rfl)⟩ rfl hl.1 rfl (Nat.le_of_ble_eq_true rfl) ⟨by show cells ≤ 601024; omega, by show slots ≤ 7293034; omega⟩ dL_law_685 (fun H locs hW => ?_)
  refine lv_aload_n S.1 S.2.1 dL_law_688 rfl (lv_at hl 3 rfl) ?_
  refine sc_at (k := 1) (v := 1) S hX hbl hW.2.2.2 hi hL (lv_at hl 0 rfl) (lv_at hl 1 rfl) (by decide) rfl rfl dL_law_689 dL_law_690 dL_law_692 dL_law_693 dL_law_694 ?_
  refine sc_at (k := 2) (v := 2) S hX hbl hW.2.2.2 hi hL (lv_at hl 0 rfl) (lv_at hl 1 rfl) (by decide) rfl rfl dL_law_695 dL_law_696 dL_law_698 dL_law_699 dL_law_700 ?_
  refine sc_at (k := 3) (v := 3) S hX hbl hW.2.2.2 hi hL (lv_at hl 0 rfl) (lv_at hl 1 rfl) (by decide) rfl rfl dL_law_701 dL_law_702 dL_law_704 dL_law_705 dL_law_706 ?_
  refine kc_ri hF (cR_clear l D adR cR kk hF.1 hr) (As := [.int (xs (i + 1)), .int (xs (i + 2)), .int (xs (i + 3))]) (rest := [.int r]) (k := 3) S hW (gd_V m_794 m_795 m_796 m_5 m_797) (by decide +kernel) ⟨(Nat.le_of_ble_eq_true rfl), (Nat.le_of_ble_eq_true rfl)⟩ rfl hl.1 rfl (Nat.le_of_ble_eq_true rfl) ⟨by show cells ≤ 601024; omega, by show slots ≤ 7293034; omega⟩ dL_law_707 (fun H locs hW => ?_)
  refine lv_icmp_eq (tgt := 1248) S.1 S.2.1 dL_law_710 (by decide) (fun _ => ?_) (fun hne => absurd rfl hne)
  have hle : nn σ ≤ nn σ' := Nat.le_of_eq (kn_B_clear σ _ _ _ _ hc).symm
  refine W.widen (k := cells + cst σ σ' + 1) (n := slots + sst σ σ' + 6) (by omega) (by omega) ?_
  exact kq _ _ _ _ _ _ _ _ ls hW hrel' hle hl
set_option maxRecDepth 100000 in
set_option maxHeartbeats 4000000 in
theorem lk_book (S : CallFix p m c cL_law 8 s args wsL RL) (hF : LF D cA cR adR kk cO s) (hX : va_X b L xs s s.heap) (hbl : b < s.heap.size) (hi : i + 6 ≤ L) (hL : L ≤ 3072) (hW : LW D ad cA cR adR kk aO cO aM aC aE ov σ ρ s H locs) (hrel : Rel σ ρ) (hl : lv_has ls 8 [(4, .int (nI i)), (0, .ref b), (1, .ref (ad 0)), (2, .ref (adR 35)), (3, .ref aO)]) (hc1 : cells + 2 * (1001 - nn σ) + 1 ≤ 601024) (hc2 : slots + 1300 * (1001 - nn σ) + 6 ≤ 7293034)
    (kq : ∀ (aM1 aC1 aE1 : Nat → Nat) (ov1 : Nat → Int64) (σ1 : SC) (ρ1 : SR) (H1 : Heap) (locs1 : List Loc) (ls1 : Array Slot), LW D ad cA cR adR kk aO cO aM1 aC1 aE1 ov1 σ1 ρ1 s H1 locs1 → Rel σ1 ρ1 → nn σ ≤ nn σ1 → lv_has ls1 8 [(4, .int (nI i)), (0, .ref b), (1, .ref (ad 0)), (2, .ref (adR 35)), (3, .ref aO)] → W p l e room_1 s m args below meth c H1 locs1 (cells + cst σ σ1 + 1) (slots + sst σ σ1 + 6) Q (F0 m 1248 ls1 [])) : W p l e room_1 s m args below meth c H locs cells slots Q (F0 m 715 ls []) := by
  have hwf := hW.2.2.1.nn
  obtain ⟨r, ρ', hc, hr, hrel'⟩ := eq_book hrel (xs (i + 1)) (xs (i + 2))
  refine lv_aload_n S.1 S.2.1 dL_law_715 rfl (lv_at hl 2 rfl) ?_
  refine sc_at (k := 1) (v := 1) S hX hbl hW.2.2.2 hi hL (lv_at hl 0 rfl) (lv_at hl 1 rfl) (by decide) rfl rfl dL_law_716 dL_law_717 dL_law_719 dL_law_720 dL_law_721 ?_
  refine sc_at (k := 2) (v := 2) S hX hbl hW.2.2.2 hi hL (lv_at hl 0 rfl) (lv_at hl 1 rfl) (by decide) rfl rfl dL_law_722 dL_law_723 dL_law_725 dL_law_726 dL_law_727 ?_
  refine kc_ci hF (cC_B_book l D ad cA kk (LA s adR) aM aC aE (xO aO cO ov) hc) (As := [.int (xs (i + 1)), .int (xs (i + 2))]) (rest := []) (k := 2) S hW (gd_V m_798 m_799 m_800 m_2 m_801) (by decide +kernel) ⟨(Nat.le_of_ble_eq_true rfl), (Nat.le_of_ble_eq_true rfl)⟩ rfl hl.1 rfl (Nat.le_of_ble_eq_true rfl) ⟨by show cells ≤ 601024; omega, by show slots ≤ 7293034; omega⟩ dL_law_728 (fun H locs hW => ?_)
  refine lv_aload_n S.1 S.2.1 dL_law_731 rfl (lv_at hl 3 rfl) ?_
  refine sc_at (k := 1) (v := 1) S hX hbl hW.2.2.2 hi hL (lv_at hl 0 rfl) (lv_at hl 1 rfl) (by decide) rfl rfl dL_law_732 dL_law_733 dL_law_735 dL_law_736 dL_law_737 ?_
  refine sc_at (k := 2) (v := 2) S hX hbl hW.2.2.2 hi hL (lv_at hl 0 rfl) (lv_at hl 1 rfl) (by decide) rfl rfl dL_law_738 dL_law_739 dL_law_741 dL_law_742 dL_law_743 ?_
  refine kc_ri hF (cR_book l D adR cR kk hF.1 hr) (As := [.int (xs (i + 1)), .int (xs (i + 2))]) (rest := [.int r]) (k := 2) S hW (gd_V m_802 m_803 m_804 m_5 m_805) (by decide +kernel) ⟨(Nat.le_of_ble_eq_true rfl), (Nat.le_of_ble_eq_true rfl)⟩ rfl hl.1 rfl (Nat.le_of_ble_eq_true rfl) ⟨by show cells ≤ 601024; omega, by show slots ≤ 7293034; omega⟩ dL_law_744 (fun H locs hW => ?_)
  refine lv_icmp_eq (tgt := 1248) S.1 S.2.1 dL_law_747 (by decide) (fun _ => ?_) (fun hne => absurd rfl hne)
  have hle : nn σ ≤ nn σ := Nat.le_refl _
  refine W.widen (k := cells + cst σ σ + 1) (n := slots + sst σ σ + 6) (by omega) (by omega) ?_
  exact kq _ _ _ _ _ _ _ _ ls hW hrel' hle hl
set_option maxRecDepth 100000 in
set_option maxHeartbeats 4000000 in
theorem lk_count (S : CallFix p m c cL_law 8 s args wsL RL) (hF : LF D cA cR adR kk cO s) (hX : va_X b L xs s s.heap) (hbl : b < s.heap.size) (hi : i + 6 ≤ L) (hL : L ≤ 3072) (hW : LW D ad cA cR adR kk aO cO aM aC aE ov σ ρ s H locs) (hrel : Rel σ ρ) (hl : lv_has ls 8 [(4, .int (nI i)), (0, .ref b), (1, .ref (ad 0)), (2, .ref (adR 35)), (3, .ref aO)]) (hc1 : cells + 2 * (1001 - nn σ) + 1 ≤ 601024) (hc2 : slots + 1300 * (1001 - nn σ) + 6 ≤ 7293034)
    (kq : ∀ (aM1 aC1 aE1 : Nat → Nat) (ov1 : Nat → Int64) (σ1 : SC) (ρ1 : SR) (H1 : Heap) (locs1 : List Loc) (ls1 : Array Slot), LW D ad cA cR adR kk aO cO aM1 aC1 aE1 ov1 σ1 ρ1 s H1 locs1 → Rel σ1 ρ1 → nn σ ≤ nn σ1 → lv_has ls1 8 [(4, .int (nI i)), (0, .ref b), (1, .ref (ad 0)), (2, .ref (adR 35)), (3, .ref aO)] → W p l e room_1 s m args below meth c H1 locs1 (cells + cst σ σ1 + 1) (slots + sst σ σ1 + 6) Q (F0 m 1248 ls1 [])) : W p l e room_1 s m args below meth c H locs cells slots Q (F0 m 752 ls []) := by
  have hwf := hW.2.2.1.nn
  obtain ⟨r, ρ', hc, hr, hrel'⟩ := eq_count hrel (xs (i + 1))
  refine lv_aload_n S.1 S.2.1 dL_law_752 rfl (lv_at hl 2 rfl) ?_
  refine sc_at (k := 1) (v := 1) S hX hbl hW.2.2.2 hi hL (lv_at hl 0 rfl) (lv_at hl 1 rfl) (by decide) rfl rfl dL_law_753 dL_law_754 dL_law_756 dL_law_757 dL_law_758 ?_
  refine kc_ci hF (cC_B_count l D ad cA kk (LA s adR) aM aC aE (xO aO cO ov) hc) (As := [.int (xs (i + 1))]) (rest := []) (k := 1) S hW (gd_V m_806 m_807 m_808 m_2 m_809) (by decide +kernel) ⟨(Nat.le_of_ble_eq_true rfl), (Nat.le_of_ble_eq_true rfl)⟩ rfl hl.1 rfl (Nat.le_of_ble_eq_true rfl) ⟨by show cells ≤ 601024; omega, by show slots ≤ 7293034; omega⟩ dL_law_759 (fun H locs hW => ?_)
  refine lv_aload_n S.1 S.2.1 dL_law_762 rfl (lv_at hl 3 rfl) ?_
  refine sc_at (k := 1) (v := 1) S hX hbl hW.2.2.2 hi hL (lv_at hl 0 rfl) (lv_at hl 1 rfl) (by decide) rfl rfl dL_law_763 dL_law_764 dL_law_766 dL_law_767 dL_law_768 ?_
  refine kc_ri hF (cR_count l D adR cR kk hF.1 hr) (As := [.int (xs (i + 1))]) (rest := [.int r]) (k := 1) S hW (gd_V m_819 m_820 m_821 m_5 m_822) (by decide +kernel) ⟨(Nat.le_of_ble_eq_true rfl), (Nat.le_of_ble_eq_true rfl)⟩ rfl hl.1 rfl (Nat.le_of_ble_eq_true rfl) ⟨by show cells ≤ 601024; omega, by show slots ≤ 7293034; omega⟩ dL_law_769 (fun H locs hW => ?_)
  refine lv_icmp_eq (tgt := 1248) S.1 S.2.1 dL_law_772 (by decide) (fun _ => ?_) (fun hne => absurd rfl hne)
  have hle : nn σ ≤ nn σ := Nat.le_refl _
  refine W.widen (k := cells + cst σ σ + 1) (n := slots + sst σ σ + 6) (by omega) (by omega) ?_
  exact kq _ _ _ _ _ _ _ _ ls hW hrel' hle hl
set_option maxRecDepth 100000 in
set_option maxHeartbeats 4000000 in
theorem lk_strike (S : CallFix p m c cL_law 8 s args wsL RL) (hF : LF D cA cR adR kk cO s) (hX : va_X b L xs s s.heap) (hbl : b < s.heap.size) (hi : i + 6 ≤ L) (hL : L ≤ 3072) (hW : LW D ad cA cR adR kk aO cO aM aC aE ov σ ρ s H locs) (hrel : Rel σ ρ) (hl : lv_has ls 8 [(4, .int (nI i)), (0, .ref b), (1, .ref (ad 0)), (2, .ref (adR 35)), (3, .ref aO)]) (hc1 : cells + 2 * (1001 - nn σ) + 1 ≤ 601024) (hc2 : slots + 1300 * (1001 - nn σ) + 6 ≤ 7293034)
    (kq : ∀ (aM1 aC1 aE1 : Nat → Nat) (ov1 : Nat → Int64) (σ1 : SC) (ρ1 : SR) (H1 : Heap) (locs1 : List Loc) (ls1 : Array Slot), LW D ad cA cR adR kk aO cO aM1 aC1 aE1 ov1 σ1 ρ1 s H1 locs1 → Rel σ1 ρ1 → nn σ ≤ nn σ1 → lv_has ls1 8 [(4, .int (nI i)), (0, .ref b), (1, .ref (ad 0)), (2, .ref (adR 35)), (3, .ref aO)] → W p l e room_1 s m args below meth c H1 locs1 (cells + cst σ σ1 + 1) (slots + sst σ σ1 + 6) Q (F0 m 1248 ls1 [])) : W p l e room_1 s m args below meth c H locs cells slots Q (F0 m 844 ls []) := by
  have hwf := hW.2.2.1.nn
  obtain ⟨r, σ', ρ', hc, hr, hrel'⟩ := eq_strike hrel (xs (i + 1))
  refine lv_aload_n S.1 S.2.1 dL_law_844 rfl (lv_at hl 2 rfl) ?_
  refine sc_at (k := 1) (v := 1) S hX hbl hW.2.2.2 hi hL (lv_at hl 0 rfl) (lv_at hl 1 rfl) (by decide) rfl rfl dL_law_845 dL_law_846 dL_law_848 dL_law_849 dL_law_850 ?_
  refine kc_ci hF (cC_B_strike l D ad cA kk (LA s adR) aM aC aE (xO aO cO ov) hc) (As := [.int (xs (i + 1))]) (rest := []) (k := 1) S hW (gd_V m_840 m_841 m_842 m_2 m_843) (by decide +kernel) ⟨(Nat.le_of_ble_eq_true rfl), (Nat.le_of_ble_eq_true rfl)⟩ rfl hl.1 rfl (Nat.le_of_ble_eq_true rfl) ⟨by show cells ≤ 601024; omega, by show slots ≤ 7293034; omega⟩ dL_law_851 (fun H locs hW => ?_)
  refine lv_aload_n S.1 S.2.1 dL_law_854 rfl (lv_at hl 3 rfl) ?_
  refine sc_at (k := 1) (v := 1) S hX hbl hW.2.2.2 hi hL (lv_at hl 0 rfl) (lv_at hl 1 rfl) (by decide) rfl rfl dL_law_855 dL_law_856 dL_law_858 dL_law_859 dL_law_860 ?_
  refine kc_ri hF (cR_strike l D adR cR kk hF.1 hr) (As := [.int (xs (i + 1))]) (rest := [.int r]) (k := 1) S hW (gd_V m_848 m_849 m_850 m_5 m_851) (by decide +kernel) ⟨(Nat.le_of_ble_eq_true rfl), (Nat.le_of_ble_eq_true rfl)⟩ rfl hl.1 rfl (Nat.le_of_ble_eq_true rfl) ⟨by show cells ≤ 601024; omega, by show slots ≤ 7293034; omega⟩ dL_law_861 (fun H locs hW => ?_)
  refine lv_icmp_eq (tgt := 1248) S.1 S.2.1 dL_law_864 (by decide) (fun _ => ?_) (fun hne => absurd rfl hne)
  have hle : nn σ ≤ nn σ' := Nat.le_of_eq (kn_B_strike σ _ _ hc).symm
  refine W.widen (k := cells + cst σ σ' + 1) (n := slots + sst σ σ' + 6) (by omega) (by omega) ?_
  exact kq _ _ _ _ _ _ _ _ ls hW hrel' hle hl
set_option maxRecDepth 100000 in
set_option maxHeartbeats 4000000 in
theorem lk_chance (S : CallFix p m c cL_law 8 s args wsL RL) (hF : LF D cA cR adR kk cO s) (hX : va_X b L xs s s.heap) (hbl : b < s.heap.size) (hi : i + 6 ≤ L) (hL : L ≤ 3072) (hW : LW D ad cA cR adR kk aO cO aM aC aE ov σ ρ s H locs) (hrel : Rel σ ρ) (hl : lv_has ls 8 [(4, .int (nI i)), (0, .ref b), (1, .ref (ad 0)), (2, .ref (adR 35)), (3, .ref aO)]) (hc1 : cells + 2 * (1001 - nn σ) + 1 ≤ 601024) (hc2 : slots + 1300 * (1001 - nn σ) + 6 ≤ 7293034)
    (kq : ∀ (aM1 aC1 aE1 : Nat → Nat) (ov1 : Nat → Int64) (σ1 : SC) (ρ1 : SR) (H1 : Heap) (locs1 : List Loc) (ls1 : Array Slot), LW D ad cA cR adR kk aO cO aM1 aC1 aE1 ov1 σ1 ρ1 s H1 locs1 → Rel σ1 ρ1 → nn σ ≤ nn σ1 → lv_has ls1 8 [(4, .int (nI i)), (0, .ref b), (1, .ref (ad 0)), (2, .ref (adR 35)), (3, .ref aO)] → W p l e room_1 s m args below meth c H1 locs1 (cells + cst σ σ1 + 1) (slots + sst σ σ1 + 6) Q (F0 m 1248 ls1 [])) : W p l e room_1 s m args below meth c H locs cells slots Q (F0 m 948 ls []) := by
  have hwf := hW.2.2.1.nn
  obtain ⟨r, σ', ρ', hc, hr, hrel'⟩ := eq_chance hrel (xs (i + 1)) (xs (i + 2))
  refine lv_aload_n S.1 S.2.1 dL_law_948 rfl (lv_at hl 2 rfl) ?_
  refine sc_at (k := 1) (v := 1) S hX hbl hW.2.2.2 hi hL (lv_at hl 0 rfl) (lv_at hl 1 rfl) (by decide) rfl rfl dL_law_949 dL_law_950 dL_law_952 dL_law_953 dL_law_954 ?_
  refine sc_at (k := 2) (v := 2) S hX hbl hW.2.2.2 hi hL (lv_at hl 0 rfl) (lv_at hl 1 rfl) (by decide) rfl rfl dL_law_955 dL_law_956 dL_law_958 dL_law_959 dL_law_960 ?_
  refine kc_ci hF (cC_B_chance l D ad cA kk (LA s adR) aM aC aE (xO aO cO ov) hc) (As := [.int (xs (i + 1)), .int (xs (i + 2))]) (rest := []) (k := 2) S hW (gd_V m_871 m_872 m_873 m_2 m_874) (by decide +kernel) ⟨(Nat.le_of_ble_eq_true rfl), (Nat.le_of_ble_eq_true rfl)⟩ rfl hl.1 rfl (Nat.le_of_ble_eq_true rfl) ⟨by show cells ≤ 601024; omega, by show slots ≤ 7293034; omega⟩ dL_law_961 (fun H locs hW => ?_)
  refine lv_aload_n S.1 S.2.1 dL_law_964 rfl (lv_at hl 3 rfl) ?_
  refine sc_at (k := 1) (v := 1) S hX hbl hW.2.2.2 hi hL (lv_at hl 0 rfl) (lv_at hl 1 rfl) (by decide) rfl rfl dL_law_965 dL_law_966 dL_law_968 dL_law_969 dL_law_970 ?_
  refine sc_at (k := 2) (v := 2) S hX hbl hW.2.2.2 hi hL (lv_at hl 0 rfl) (lv_at hl 1 rfl) (by decide) rfl rfl dL_law_971 dL_law_972 dL_law_974 dL_law_975 dL_law_976 ?_
  refine kc_ri hF (cR_chance l D adR cR kk hF.1 hr) (As := [.int (xs (i + 1)), .int (xs (i + 2))]) (rest := [.int r]) (k := 2) S hW (gd_V m_880 m_881 m_882 m_5 m_883) (by decide +kernel) ⟨(Nat.le_of_ble_eq_true rfl), (Nat.le_of_ble_eq_true rfl)⟩ rfl hl.1 rfl (Nat.le_of_ble_eq_true rfl) ⟨by show cells ≤ 601024; omega, by show slots ≤ 7293034; omega⟩ dL_law_977 (fun H locs hW => ?_)
  refine lv_icmp_eq (tgt := 1248) S.1 S.2.1 dL_law_980 (by decide) (fun _ => ?_) (fun hne => absurd rfl hne)
  have hle : nn σ ≤ nn σ' := Nat.le_of_eq (kn_B_chance σ _ _ _ hc).symm
  refine W.widen (k := cells + cst σ σ' + 1) (n := slots + sst σ σ' + 6) (by omega) (by omega) ?_
  exact kq _ _ _ _ _ _ _ _ ls hW hrel' hle hl
set_option maxRecDepth 100000 in
set_option maxHeartbeats 4000000 in
theorem lk_ways (S : CallFix p m c cL_law 8 s args wsL RL) (hF : LF D cA cR adR kk cO s) (hX : va_X b L xs s s.heap) (hbl : b < s.heap.size) (hi : i + 6 ≤ L) (hL : L ≤ 3072) (hW : LW D ad cA cR adR kk aO cO aM aC aE ov σ ρ s H locs) (hrel : Rel σ ρ) (hl : lv_has ls 8 [(4, .int (nI i)), (0, .ref b), (1, .ref (ad 0)), (2, .ref (adR 35)), (3, .ref aO)]) (hc1 : cells + 2 * (1001 - nn σ) + 1 ≤ 601024) (hc2 : slots + 1300 * (1001 - nn σ) + 6 ≤ 7293034)
    (kq : ∀ (aM1 aC1 aE1 : Nat → Nat) (ov1 : Nat → Int64) (σ1 : SC) (ρ1 : SR) (H1 : Heap) (locs1 : List Loc) (ls1 : Array Slot), LW D ad cA cR adR kk aO cO aM1 aC1 aE1 ov1 σ1 ρ1 s H1 locs1 → Rel σ1 ρ1 → nn σ ≤ nn σ1 → lv_has ls1 8 [(4, .int (nI i)), (0, .ref b), (1, .ref (ad 0)), (2, .ref (adR 35)), (3, .ref aO)] → W p l e room_1 s m args below meth c H1 locs1 (cells + cst σ σ1 + 1) (slots + sst σ σ1 + 6) Q (F0 m 1248 ls1 [])) : W p l e room_1 s m args below meth c H locs cells slots Q (F0 m 985 ls []) := by
  have hwf := hW.2.2.1.nn
  obtain ⟨r, σ', ρ', hc, hr, hrel'⟩ := eq_ways hrel (xs (i + 1)) (xs (i + 2)) (xs (i + 3))
  refine lv_aload_n S.1 S.2.1 dL_law_985 rfl (lv_at hl 2 rfl) ?_
  refine sc_at (k := 1) (v := 1) S hX hbl hW.2.2.2 hi hL (lv_at hl 0 rfl) (lv_at hl 1 rfl) (by decide) rfl rfl dL_law_986 dL_law_987 dL_law_989 dL_law_990 dL_law_991 ?_
  refine sc_at (k := 2) (v := 2) S hX hbl hW.2.2.2 hi hL (lv_at hl 0 rfl) (lv_at hl 1 rfl) (by decide) rfl rfl dL_law_992 dL_law_993 dL_law_995 dL_law_996 dL_law_997 ?_
  refine sc_at (k := 3) (v := 3) S hX hbl hW.2.2.2 hi hL (lv_at hl 0 rfl) (lv_at hl 1 rfl) (by decide) rfl rfl dL_law_998 dL_law_999 dL_law_1001 dL_law_1002 dL_law_1003 ?_
  refine kc_cl hF (cC_B_ways l D ad cA kk (LA s adR) aM aC aE (xO aO cO ov) hc) (As := [.int (xs (i + 1)), .int (xs (i + 2)), .int (xs (i + 3))]) (rest := []) (k := 3) S hW (gd_V m_884 m_885 m_886 m_2 m_887) (by decide +kernel) ⟨(Nat.le_of_ble_eq_true rfl), (Nat.le_of_ble_eq_true rfl)⟩ rfl hl.1 rfl (Nat.le_of_ble_eq_true rfl) ⟨by show cells ≤ 601024; omega, by show slots ≤ 7293034; omega⟩ dL_law_1004 (fun H locs hW => ?_)
  refine lv_aload_n S.1 S.2.1 dL_law_1007 rfl (lv_at hl 3 rfl) ?_
  refine sc_at (k := 1) (v := 1) S hX hbl hW.2.2.2 hi hL (lv_at hl 0 rfl) (lv_at hl 1 rfl) (by decide) rfl rfl dL_law_1008 dL_law_1009 dL_law_1011 dL_law_1012 dL_law_1013 ?_
  refine sc_at (k := 2) (v := 2) S hX hbl hW.2.2.2 hi hL (lv_at hl 0 rfl) (lv_at hl 1 rfl) (by decide) rfl rfl dL_law_1014 dL_law_1015 dL_law_1017 dL_law_1018 dL_law_1019 ?_
  refine sc_at (k := 3) (v := 3) S hX hbl hW.2.2.2 hi hL (lv_at hl 0 rfl) (lv_at hl 1 rfl) (by decide) rfl rfl dL_law_1020 dL_law_1021 dL_law_1023 dL_law_1024 dL_law_1025 ?_
  refine kc_rl hF (cR_ways l D adR cR kk hF.1 hr) (As := [.int (xs (i + 1)), .int (xs (i + 2)), .int (xs (i + 3))]) (rest := [.long r]) (k := 3) S hW (gd_V m_907 m_908 m_909 m_5 m_910) (by decide +kernel) ⟨(Nat.le_of_ble_eq_true rfl), (Nat.le_of_ble_eq_true rfl)⟩ rfl hl.1 rfl (Nat.le_of_ble_eq_true rfl) ⟨by show cells ≤ 601024; omega, by show slots ≤ 7293034; omega⟩ dL_law_1026 (fun H locs hW => ?_)
  refine W.lcmp S.1 S.2.1 dL_law_1029 ?_
  rw [lg_self]
  refine lv_if_eq (tgt := 1248) S.1 S.2.1 dL_law_1030 (by decide) (fun _ => ?_) (fun hne => absurd rfl hne)
  have hle : nn σ ≤ nn σ' := Nat.le_of_eq (kn_B_ways σ _ _ _ _ hc).symm
  refine W.widen (k := cells + cst σ σ' + 1) (n := slots + sst σ σ' + 6) (by omega) (by omega) ?_
  exact kq _ _ _ _ _ _ _ _ ls hW hrel' hle hl
set_option maxRecDepth 100000 in
set_option maxHeartbeats 4000000 in
theorem lk_print (S : CallFix p m c cL_law 8 s args wsL RL) (hF : LF D cA cR adR kk cO s) (hX : va_X b L xs s s.heap) (hbl : b < s.heap.size) (hi : i + 6 ≤ L) (hL : L ≤ 3072) (hW : LW D ad cA cR adR kk aO cO aM aC aE ov σ ρ s H locs) (hrel : Rel σ ρ) (hl : lv_has ls 8 [(4, .int (nI i)), (0, .ref b), (1, .ref (ad 0)), (2, .ref (adR 35)), (3, .ref aO)]) (hc1 : cells + 2 * (1001 - nn σ) + 1 ≤ 601024) (hc2 : slots + 1300 * (1001 - nn σ) + 6 ≤ 7293034)
    (kq : ∀ (aM1 aC1 aE1 : Nat → Nat) (ov1 : Nat → Int64) (σ1 : SC) (ρ1 : SR) (H1 : Heap) (locs1 : List Loc) (ls1 : Array Slot), LW D ad cA cR adR kk aO cO aM1 aC1 aE1 ov1 σ1 ρ1 s H1 locs1 → Rel σ1 ρ1 → nn σ ≤ nn σ1 → lv_has ls1 8 [(4, .int (nI i)), (0, .ref b), (1, .ref (ad 0)), (2, .ref (adR 35)), (3, .ref aO)] → W p l e room_1 s m args below meth c H1 locs1 (cells + cst σ σ1 + 1) (slots + sst σ σ1 + 6) Q (F0 m 1248 ls1 [])) : W p l e room_1 s m args below meth c H locs cells slots Q (F0 m 1035 ls []) := by
  have hwf := hW.2.2.1.nn
  obtain ⟨r, σ', ρ', hc, hr, hrel'⟩ := eq_print hrel (xs (i + 1)) (xs (i + 2)) (xs (i + 3)) (xs (i + 4))
  refine lv_aload_n S.1 S.2.1 dL_law_1035 rfl (lv_at hl 2 rfl) ?_
  refine sc_at (k := 1) (v := 1) S hX hbl hW.2.2.2 hi hL (lv_at hl 0 rfl) (lv_at hl 1 rfl) (by decide) rfl rfl dL_law_1036 dL_law_1037 dL_law_1039 dL_law_1040 dL_law_1041 ?_
  refine sc_at (k := 2) (v := 2) S hX hbl hW.2.2.2 hi hL (lv_at hl 0 rfl) (lv_at hl 1 rfl) (by decide) rfl rfl dL_law_1042 dL_law_1043 dL_law_1045 dL_law_1046 dL_law_1047 ?_
  refine sc_at (k := 3) (v := 3) S hX hbl hW.2.2.2 hi hL (lv_at hl 0 rfl) (lv_at hl 1 rfl) (by decide) rfl rfl dL_law_1048 dL_law_1049 dL_law_1051 dL_law_1052 dL_law_1053 ?_
  refine sc_at (k := 4) (v := 4) S hX hbl hW.2.2.2 hi hL (lv_at hl 0 rfl) (lv_at hl 1 rfl) (by decide) rfl rfl dL_law_1054 dL_law_1055 dL_law_1057 dL_law_1058 dL_law_1059 ?_
  refine kc_ci hF (cC_B_print l D ad cA kk (LA s adR) aM aC aE (xO aO cO ov) hc) (As := [.int (xs (i + 1)), .int (xs (i + 2)), .int (xs (i + 3)), .int (xs (i + 4))]) (rest := []) (k := 4) S hW (gd_V m_925 m_926 m_927 m_2 m_928) (by decide +kernel) ⟨(Nat.le_of_ble_eq_true rfl), (Nat.le_of_ble_eq_true rfl)⟩ rfl hl.1 rfl (Nat.le_of_ble_eq_true rfl) ⟨by show cells ≤ 601024; omega, by show slots ≤ 7293034; omega⟩ dL_law_1060 (fun H locs hW => ?_)
  refine lv_aload_n S.1 S.2.1 dL_law_1063 rfl (lv_at hl 3 rfl) ?_
  refine sc_at (k := 1) (v := 1) S hX hbl hW.2.2.2 hi hL (lv_at hl 0 rfl) (lv_at hl 1 rfl) (by decide) rfl rfl dL_law_1064 dL_law_1065 dL_law_1067 dL_law_1068 dL_law_1069 ?_
  refine sc_at (k := 2) (v := 2) S hX hbl hW.2.2.2 hi hL (lv_at hl 0 rfl) (lv_at hl 1 rfl) (by decide) rfl rfl dL_law_1070 dL_law_1071 dL_law_1073 dL_law_1074 dL_law_1075 ?_
  refine sc_at (k := 3) (v := 3) S hX hbl hW.2.2.2 hi hL (lv_at hl 0 rfl) (lv_at hl 1 rfl) (by decide) rfl rfl dL_law_1076 dL_law_1077 dL_law_1079 dL_law_1080 dL_law_1081 ?_
  refine sc_at (k := 4) (v := 4) S hX hbl hW.2.2.2 hi hL (lv_at hl 0 rfl) (lv_at hl 1 rfl) (by decide) rfl rfl dL_law_1082 dL_law_1083 dL_law_1085 dL_law_1086 dL_law_1087 ?_
  refine kc_ri hF (cR_print l D adR cR kk hF.1 hr) (As := [.int (xs (i + 1)), .int (xs (i + 2)), .int (xs (i + 3)), .int (xs (i + 4))]) (rest := [.int r]) (k := 4) S hW (gd_V m_940 m_941 m_942 m_5 m_943) (by decide +kernel) ⟨(Nat.le_of_ble_eq_true rfl), (Nat.le_of_ble_eq_true rfl)⟩ rfl hl.1 rfl (Nat.le_of_ble_eq_true rfl) ⟨by show cells ≤ 601024; omega, by show slots ≤ 7293034; omega⟩ dL_law_1088 (fun H locs hW => ?_)
  refine lv_icmp_eq (tgt := 1248) S.1 S.2.1 dL_law_1091 (by decide) (fun _ => ?_) (fun hne => absurd rfl hne)
  have hle : nn σ ≤ nn σ' := Nat.le_of_eq (kn_B_print σ _ _ _ _ _ hc).symm
  refine W.widen (k := cells + cst σ σ' + 1) (n := slots + sst σ σ' + 6) (by omega) (by omega) ?_
  exact kq _ _ _ _ _ _ _ _ ls hW hrel' hle hl
set_option maxRecDepth 100000 in
set_option maxHeartbeats 4000000 in
theorem lk_mark (S : CallFix p m c cL_law 8 s args wsL RL) (hF : LF D cA cR adR kk cO s) (hX : va_X b L xs s s.heap) (hbl : b < s.heap.size) (hi : i + 6 ≤ L) (hL : L ≤ 3072) (hW : LW D ad cA cR adR kk aO cO aM aC aE ov σ ρ s H locs) (hrel : Rel σ ρ) (hl : lv_has ls 8 [(4, .int (nI i)), (0, .ref b), (1, .ref (ad 0)), (2, .ref (adR 35)), (3, .ref aO)]) (hc1 : cells + 2 * (1001 - nn σ) + 1 ≤ 601024) (hc2 : slots + 1300 * (1001 - nn σ) + 6 ≤ 7293034)
    (kq : ∀ (aM1 aC1 aE1 : Nat → Nat) (ov1 : Nat → Int64) (σ1 : SC) (ρ1 : SR) (H1 : Heap) (locs1 : List Loc) (ls1 : Array Slot), LW D ad cA cR adR kk aO cO aM1 aC1 aE1 ov1 σ1 ρ1 s H1 locs1 → Rel σ1 ρ1 → nn σ ≤ nn σ1 → lv_has ls1 8 [(4, .int (nI i)), (0, .ref b), (1, .ref (ad 0)), (2, .ref (adR 35)), (3, .ref aO)] → W p l e room_1 s m args below meth c H1 locs1 (cells + cst σ σ1 + 1) (slots + sst σ σ1 + 6) Q (F0 m 1248 ls1 [])) : W p l e room_1 s m args below meth c H locs cells slots Q (F0 m 1096 ls []) := by
  have hwf := hW.2.2.1.nn
  obtain ⟨r, σ', ρ', hc, hr, hrel'⟩ := eq_mark hrel (xs (i + 1)) (xs (i + 2)) (xs (i + 3))
  refine lv_aload_n S.1 S.2.1 dL_law_1096 rfl (lv_at hl 2 rfl) ?_
  refine sc_at (k := 1) (v := 1) S hX hbl hW.2.2.2 hi hL (lv_at hl 0 rfl) (lv_at hl 1 rfl) (by decide) rfl rfl dL_law_1097 dL_law_1098 dL_law_1100 dL_law_1101 dL_law_1102 ?_
  refine sc_at (k := 2) (v := 2) S hX hbl hW.2.2.2 hi hL (lv_at hl 0 rfl) (lv_at hl 1 rfl) (by decide) rfl rfl dL_law_1103 dL_law_1104 dL_law_1106 dL_law_1107 dL_law_1108 ?_
  refine sc_at (k := 3) (v := 3) S hX hbl hW.2.2.2 hi hL (lv_at hl 0 rfl) (lv_at hl 1 rfl) (by decide) rfl rfl dL_law_1109 dL_law_1110 dL_law_1112 dL_law_1113 dL_law_1114 ?_
  refine kc_ci hF (cC_B_mark l D ad cA kk (LA s adR) aM aC aE (xO aO cO ov) hc) (As := [.int (xs (i + 1)), .int (xs (i + 2)), .int (xs (i + 3))]) (rest := []) (k := 3) S hW (gd_V m_944 m_945 m_946 m_2 m_947) (by decide +kernel) ⟨(Nat.le_of_ble_eq_true rfl), (Nat.le_of_ble_eq_true rfl)⟩ rfl hl.1 rfl (Nat.le_of_ble_eq_true rfl) ⟨by show cells ≤ 601024; omega, by show slots ≤ 7293034; omega⟩ dL_law_1115 (fun H locs hW => ?_)
  refine lv_aload_n S.1 S.2.1 dL_law_1118 rfl (lv_at hl 3 rfl) ?_
  refine sc_at (k := 1) (v := 1) S hX hbl hW.2.2.2 hi hL (lv_at hl 0 rfl) (lv_at hl 1 rfl) (by decide) rfl rfl dL_law_1119 dL_law_1120 dL_law_1122 dL_law_1123 dL_law_1124 ?_
  refine sc_at (k := 2) (v := 2) S hX hbl hW.2.2.2 hi hL (lv_at hl 0 rfl) (lv_at hl 1 rfl) (by decide) rfl rfl dL_law_1125 dL_law_1126 dL_law_1128 dL_law_1129 dL_law_1130 ?_
  refine sc_at (k := 3) (v := 3) S hX hbl hW.2.2.2 hi hL (lv_at hl 0 rfl) (lv_at hl 1 rfl) (by decide) rfl rfl dL_law_1131 dL_law_1132 dL_law_1134 dL_law_1135 dL_law_1136 ?_
  refine kc_ri hF (cR_mark l D adR cR kk hF.1 hr) (As := [.int (xs (i + 1)), .int (xs (i + 2)), .int (xs (i + 3))]) (rest := [.int r]) (k := 3) S hW (gd_V m_961 m_962 m_963 m_5 m_964) (by decide +kernel) ⟨(Nat.le_of_ble_eq_true rfl), (Nat.le_of_ble_eq_true rfl)⟩ rfl hl.1 rfl (Nat.le_of_ble_eq_true rfl) ⟨by show cells ≤ 601024; omega, by show slots ≤ 7293034; omega⟩ dL_law_1137 (fun H locs hW => ?_)
  refine lv_icmp_eq (tgt := 1248) S.1 S.2.1 dL_law_1140 (by decide) (fun _ => ?_) (fun hne => absurd rfl hne)
  have hle : nn σ ≤ nn σ' := Nat.le_of_eq (kn_B_mark σ _ _ _ _ hc).symm
  refine W.widen (k := cells + cst σ σ' + 1) (n := slots + sst σ σ' + 6) (by omega) (by omega) ?_
  exact kq _ _ _ _ _ _ _ _ ls hW hrel' hle hl
set_option maxRecDepth 100000 in
set_option maxHeartbeats 4000000 in
theorem lk_kin (S : CallFix p m c cL_law 8 s args wsL RL) (hF : LF D cA cR adR kk cO s) (hX : va_X b L xs s s.heap) (hbl : b < s.heap.size) (hi : i + 6 ≤ L) (hL : L ≤ 3072) (hW : LW D ad cA cR adR kk aO cO aM aC aE ov σ ρ s H locs) (hrel : Rel σ ρ) (hl : lv_has ls 8 [(4, .int (nI i)), (0, .ref b), (1, .ref (ad 0)), (2, .ref (adR 35)), (3, .ref aO)]) (hc1 : cells + 2 * (1001 - nn σ) + 1 ≤ 601024) (hc2 : slots + 1300 * (1001 - nn σ) + 6 ≤ 7293034)
    (kq : ∀ (aM1 aC1 aE1 : Nat → Nat) (ov1 : Nat → Int64) (σ1 : SC) (ρ1 : SR) (H1 : Heap) (locs1 : List Loc) (ls1 : Array Slot), LW D ad cA cR adR kk aO cO aM1 aC1 aE1 ov1 σ1 ρ1 s H1 locs1 → Rel σ1 ρ1 → nn σ ≤ nn σ1 → lv_has ls1 8 [(4, .int (nI i)), (0, .ref b), (1, .ref (ad 0)), (2, .ref (adR 35)), (3, .ref aO)] → W p l e room_1 s m args below meth c H1 locs1 (cells + cst σ σ1 + 1) (slots + sst σ σ1 + 6) Q (F0 m 1248 ls1 [])) : W p l e room_1 s m args below meth c H locs cells slots Q (F0 m 1145 ls []) := by
  by_cases hz : xs (i + 3) = 0
  · have hwf := hW.2.2.1.nn
    obtain ⟨r, σ', ρ', hc, hr, hrel'⟩ := eq_kin hrel (xs (i + 1)) (xs (i + 2)) 0 (Or.inl rfl)
    refine lv_aload_n S.1 S.2.1 dL_law_1145 rfl (lv_at hl 2 rfl) ?_
    refine sc_at (k := 1) (v := 1) S hX hbl hW.2.2.2 hi hL (lv_at hl 0 rfl) (lv_at hl 1 rfl) (by decide) rfl rfl dL_law_1146 dL_law_1147 dL_law_1149 dL_law_1150 dL_law_1151 ?_
    refine sc_at (k := 2) (v := 2) S hX hbl hW.2.2.2 hi hL (lv_at hl 0 rfl) (lv_at hl 1 rfl) (by decide) rfl rfl dL_law_1152 dL_law_1153 dL_law_1155 dL_law_1156 dL_law_1157 ?_
    refine sc_at (k := 3) (v := 3) S hX hbl hW.2.2.2 hi hL (lv_at hl 0 rfl) (lv_at hl 1 rfl) (by decide) rfl rfl dL_law_1158 dL_law_1159 dL_law_1161 dL_law_1162 dL_law_1163 ?_
    refine lv_if_eq (tgt := 1171) S.1 S.2.1 dL_law_1164 (by decide) (fun _ => ?_) (fun h => absurd hz h)
    refine lv_iconst (v := (0 : Int32)) S.1 S.2.1 dL_law_1171 (by decide) ?_
    refine kc_ci hF (cC_B_kin l D ad cA kk (LA s adR) aM aC aE (xO aO cO ov) hc) (As := [.int (xs (i + 1)), .int (xs (i + 2)), .int 0]) (rest := []) (k := 3) S hW (gd_V m_968 m_969 m_970 m_2 m_971) (by decide +kernel) ⟨(Nat.le_of_ble_eq_true rfl), (Nat.le_of_ble_eq_true rfl)⟩ rfl hl.1 rfl (Nat.le_of_ble_eq_true rfl) ⟨by show cells ≤ 601024; omega, by show slots ≤ 7293034; omega⟩ dL_law_1172 (fun H locs hW => ?_)
    refine lv_aload_n S.1 S.2.1 dL_law_1175 rfl (lv_at hl 3 rfl) ?_
    refine sc_at (k := 1) (v := 1) S hX hbl hW.2.2.2 hi hL (lv_at hl 0 rfl) (lv_at hl 1 rfl) (by decide) rfl rfl dL_law_1176 dL_law_1177 dL_law_1179 dL_law_1180 dL_law_1181 ?_
    refine sc_at (k := 2) (v := 2) S hX hbl hW.2.2.2 hi hL (lv_at hl 0 rfl) (lv_at hl 1 rfl) (by decide) rfl rfl dL_law_1182 dL_law_1183 dL_law_1185 dL_law_1186 dL_law_1187 ?_
    refine sc_at (k := 3) (v := 3) S hX hbl hW.2.2.2 hi hL (lv_at hl 0 rfl) (lv_at hl 1 rfl) (by decide) rfl rfl dL_law_1188 dL_law_1189 dL_law_1191 dL_law_1192 dL_law_1193 ?_
    refine lv_if_eq (tgt := 1201) S.1 S.2.1 dL_law_1194 (by decide) (fun _ => ?_) (fun h => absurd hz h)
    refine lv_iconst (v := (0 : Int32)) S.1 S.2.1 dL_law_1201 (by decide) ?_
    refine kc_ri hF (cR_kin l D adR cR kk hF.1 hr) (As := [.int (xs (i + 1)), .int (xs (i + 2)), .int 0]) (rest := [.int r]) (k := 3) S hW (gd_V m_976 m_977 m_978 m_5 m_979) (by decide +kernel) ⟨(Nat.le_of_ble_eq_true rfl), (Nat.le_of_ble_eq_true rfl)⟩ rfl hl.1 rfl (Nat.le_of_ble_eq_true rfl) ⟨by show cells ≤ 601024; omega, by show slots ≤ 7293034; omega⟩ dL_law_1202 (fun H locs hW => ?_)
    refine lv_icmp_eq (tgt := 1248) S.1 S.2.1 dL_law_1205 (by decide) (fun _ => ?_) (fun hne => absurd rfl hne)
    have hle : nn σ ≤ nn σ' := Nat.le_of_eq (kn_B_kin σ _ _ _ _ hc).symm
    refine W.widen (k := cells + cst σ σ' + 1) (n := slots + sst σ σ' + 6) (by omega) (by omega) ?_
    exact kq _ _ _ _ _ _ _ _ ls hW hrel' hle hl
  · have hwf := hW.2.2.1.nn
    obtain ⟨r, σ', ρ', hc, hr, hrel'⟩ := eq_kin hrel (xs (i + 1)) (xs (i + 2)) 1 (Or.inr rfl)
    refine lv_aload_n S.1 S.2.1 dL_law_1145 rfl (lv_at hl 2 rfl) ?_
    refine sc_at (k := 1) (v := 1) S hX hbl hW.2.2.2 hi hL (lv_at hl 0 rfl) (lv_at hl 1 rfl) (by decide) rfl rfl dL_law_1146 dL_law_1147 dL_law_1149 dL_law_1150 dL_law_1151 ?_
    refine sc_at (k := 2) (v := 2) S hX hbl hW.2.2.2 hi hL (lv_at hl 0 rfl) (lv_at hl 1 rfl) (by decide) rfl rfl dL_law_1152 dL_law_1153 dL_law_1155 dL_law_1156 dL_law_1157 ?_
    refine sc_at (k := 3) (v := 3) S hX hbl hW.2.2.2 hi hL (lv_at hl 0 rfl) (lv_at hl 1 rfl) (by decide) rfl rfl dL_law_1158 dL_law_1159 dL_law_1161 dL_law_1162 dL_law_1163 ?_
    refine lv_if_eq (tgt := 1171) S.1 S.2.1 dL_law_1164 (by decide) (fun h => absurd h hz) (fun _ => ?_)
    refine lv_iconst (v := (1 : Int32)) S.1 S.2.1 dL_law_1167 (by decide) ?_
    refine lv_goto (tgt := 1172) S.1 S.2.1 dL_law_1168 (by decide) ?_
    refine kc_ci hF (cC_B_kin l D ad cA kk (LA s adR) aM aC aE (xO aO cO ov) hc) (As := [.int (xs (i + 1)), .int (xs (i + 2)), .int 1]) (rest := []) (k := 3) S hW (gd_V m_968 m_969 m_970 m_2 m_971) (by decide +kernel) ⟨(Nat.le_of_ble_eq_true rfl), (Nat.le_of_ble_eq_true rfl)⟩ rfl hl.1 rfl (Nat.le_of_ble_eq_true rfl) ⟨by show cells ≤ 601024; omega, by show slots ≤ 7293034; omega⟩ dL_law_1172 (fun H locs hW => ?_)
    refine lv_aload_n S.1 S.2.1 dL_law_1175 rfl (lv_at hl 3 rfl) ?_
    refine sc_at (k := 1) (v := 1) S hX hbl hW.2.2.2 hi hL (lv_at hl 0 rfl) (lv_at hl 1 rfl) (by decide) rfl rfl dL_law_1176 dL_law_1177 dL_law_1179 dL_law_1180 dL_law_1181 ?_
    refine sc_at (k := 2) (v := 2) S hX hbl hW.2.2.2 hi hL (lv_at hl 0 rfl) (lv_at hl 1 rfl) (by decide) rfl rfl dL_law_1182 dL_law_1183 dL_law_1185 dL_law_1186 dL_law_1187 ?_
    refine sc_at (k := 3) (v := 3) S hX hbl hW.2.2.2 hi hL (lv_at hl 0 rfl) (lv_at hl 1 rfl) (by decide) rfl rfl dL_law_1188 dL_law_1189 dL_law_1191 dL_law_1192 dL_law_1193 ?_
    refine lv_if_eq (tgt := 1201) S.1 S.2.1 dL_law_1194 (by decide) (fun h => absurd h hz) (fun _ => ?_)
    refine lv_iconst (v := (1 : Int32)) S.1 S.2.1 dL_law_1197 (by decide) ?_
    refine lv_goto (tgt := 1202) S.1 S.2.1 dL_law_1198 (by decide) ?_
    refine kc_ri hF (cR_kin l D adR cR kk hF.1 hr) (As := [.int (xs (i + 1)), .int (xs (i + 2)), .int 1]) (rest := [.int r]) (k := 3) S hW (gd_V m_976 m_977 m_978 m_5 m_979) (by decide +kernel) ⟨(Nat.le_of_ble_eq_true rfl), (Nat.le_of_ble_eq_true rfl)⟩ rfl hl.1 rfl (Nat.le_of_ble_eq_true rfl) ⟨by show cells ≤ 601024; omega, by show slots ≤ 7293034; omega⟩ dL_law_1202 (fun H locs hW => ?_)
    refine lv_icmp_eq (tgt := 1248) S.1 S.2.1 dL_law_1205 (by decide) (fun _ => ?_) (fun hne => absurd rfl hne)
    have hle : nn σ ≤ nn σ' := Nat.le_of_eq (kn_B_kin σ _ _ _ _ hc).symm
    refine W.widen (k := cells + cst σ σ' + 1) (n := slots + sst σ σ' + 6) (by omega) (by omega) ?_
    exact kq _ _ _ _ _ _ _ _ ls hW hrel' hle hl
set_option maxRecDepth 100000 in
set_option maxHeartbeats 4000000 in
theorem lk_middle (S : CallFix p m c cL_law 8 s args wsL RL) (hF : LF D cA cR adR kk cO s) (hX : va_X b L xs s s.heap) (hbl : b < s.heap.size) (hi : i + 6 ≤ L) (hL : L ≤ 3072) (hW : LW D ad cA cR adR kk aO cO aM aC aE ov σ ρ s H locs) (hrel : Rel σ ρ) (hl : lv_has ls 8 [(4, .int (nI i)), (0, .ref b), (1, .ref (ad 0)), (2, .ref (adR 35)), (3, .ref aO)]) (hc1 : cells + 2 * (1001 - nn σ) + 1 ≤ 601024) (hc2 : slots + 1300 * (1001 - nn σ) + 6 ≤ 7293034)
    (kq : ∀ (aM1 aC1 aE1 : Nat → Nat) (ov1 : Nat → Int64) (σ1 : SC) (ρ1 : SR) (H1 : Heap) (locs1 : List Loc) (ls1 : Array Slot), LW D ad cA cR adR kk aO cO aM1 aC1 aE1 ov1 σ1 ρ1 s H1 locs1 → Rel σ1 ρ1 → nn σ ≤ nn σ1 → lv_has ls1 8 [(4, .int (nI i)), (0, .ref b), (1, .ref (ad 0)), (2, .ref (adR 35)), (3, .ref aO)] → W p l e room_1 s m args below meth c H1 locs1 (cells + cst σ σ1 + 1) (slots + sst σ σ1 + 6) Q (F0 m 1248 ls1 [])) : W p l e room_1 s m args below meth c H locs cells slots Q (F0 m 1210 ls []) := by
  have hwf := hW.2.2.1.nn
  obtain ⟨r, σ', ρ', hc, hr, hrel'⟩ := eq_middle hrel (xs (i + 1))
  refine lv_aload_n S.1 S.2.1 dL_law_1210 rfl (lv_at hl 2 rfl) ?_
  refine sc_at (k := 1) (v := 1) S hX hbl hW.2.2.2 hi hL (lv_at hl 0 rfl) (lv_at hl 1 rfl) (by decide) rfl rfl dL_law_1211 dL_law_1212 dL_law_1214 dL_law_1215 dL_law_1216 ?_
  refine kc_ci hF (cC_B_middle l D ad cA kk (LA s adR) aM aC aE (xO aO cO ov) hc) (As := [.int (xs (i + 1))]) (rest := []) (k := 1) S hW (gd_V m_980 m_981 m_982 m_2 m_983) (by decide +kernel) ⟨(Nat.le_of_ble_eq_true rfl), (Nat.le_of_ble_eq_true rfl)⟩ rfl hl.1 rfl (Nat.le_of_ble_eq_true rfl) ⟨by show cells ≤ 601024; omega, by show slots ≤ 7293034; omega⟩ dL_law_1217 (fun H locs hW => ?_)
  refine lv_aload_n S.1 S.2.1 dL_law_1220 rfl (lv_at hl 3 rfl) ?_
  refine sc_at (k := 1) (v := 1) S hX hbl hW.2.2.2 hi hL (lv_at hl 0 rfl) (lv_at hl 1 rfl) (by decide) rfl rfl dL_law_1221 dL_law_1222 dL_law_1224 dL_law_1225 dL_law_1226 ?_
  refine kc_ri hF (cR_middle l D adR cR kk hF.1 hr) (As := [.int (xs (i + 1))]) (rest := [.int r]) (k := 1) S hW (gd_V m_992 m_993 m_994 m_5 m_995) (by decide +kernel) ⟨(Nat.le_of_ble_eq_true rfl), (Nat.le_of_ble_eq_true rfl)⟩ rfl hl.1 rfl (Nat.le_of_ble_eq_true rfl) ⟨by show cells ≤ 601024; omega, by show slots ≤ 7293034; omega⟩ dL_law_1227 (fun H locs hW => ?_)
  refine lv_icmp_eq (tgt := 1248) S.1 S.2.1 dL_law_1230 (by decide) (fun _ => ?_) (fun hne => absurd rfl hne)
  have hle : nn σ ≤ nn σ' := Nat.le_of_eq (kn_B_middle σ _ _ hc).symm
  refine W.widen (k := cells + cst σ σ' + 1) (n := slots + sst σ σ' + 6) (by omega) (by omega) ?_
  exact kq _ _ _ _ _ _ _ _ ls hW hrel' hle hl
set_option maxRecDepth 100000 in
set_option maxHeartbeats 4000000 in
theorem lk_winner (S : CallFix p m c cL_law 8 s args wsL RL) (hF : LF D cA cR adR kk cO s) (hX : va_X b L xs s s.heap) (hbl : b < s.heap.size) (hi : i + 6 ≤ L) (hL : L ≤ 3072) (hW : LW D ad cA cR adR kk aO cO aM aC aE ov σ ρ s H locs) (hrel : Rel σ ρ) (hl : lv_has ls 8 [(4, .int (nI i)), (0, .ref b), (1, .ref (ad 0)), (2, .ref (adR 35)), (3, .ref aO)]) (hc1 : cells + 2 * (1001 - nn σ) + 1 ≤ 601024) (hc2 : slots + 1300 * (1001 - nn σ) + 6 ≤ 7293034)
    (kq : ∀ (aM1 aC1 aE1 : Nat → Nat) (ov1 : Nat → Int64) (σ1 : SC) (ρ1 : SR) (H1 : Heap) (locs1 : List Loc) (ls1 : Array Slot), LW D ad cA cR adR kk aO cO aM1 aC1 aE1 ov1 σ1 ρ1 s H1 locs1 → Rel σ1 ρ1 → nn σ ≤ nn σ1 → lv_has ls1 8 [(4, .int (nI i)), (0, .ref b), (1, .ref (ad 0)), (2, .ref (adR 35)), (3, .ref aO)] → W p l e room_1 s m args below meth c H1 locs1 (cells + cst σ σ1 + 1) (slots + sst σ σ1 + 6) Q (F0 m 1248 ls1 [])) : W p l e room_1 s m args below meth c H locs cells slots Q (F0 m 1235 ls []) := by
  have hwf := hW.2.2.1.nn
  obtain ⟨r, σ', ρ', hc, hr, hrel'⟩ := eq_winner hrel 
  refine lv_aload_n S.1 S.2.1 dL_law_1235 rfl (lv_at hl 2 rfl) ?_
  refine kc_ci hF (cC_B_winner l D ad cA kk (LA s adR) aM aC aE (xO aO cO ov) hc) (As := []) (rest := []) (k := 0) S hW (gd_V m_1004 m_1005 m_1006 m_2 m_1007) (by decide +kernel) ⟨(Nat.le_of_ble_eq_true rfl), (Nat.le_of_ble_eq_true rfl)⟩ rfl hl.1 rfl (Nat.le_of_ble_eq_true rfl) ⟨by show cells ≤ 601024; omega, by show slots ≤ 7293034; omega⟩ dL_law_1236 (fun H locs hW => ?_)
  refine lv_aload_n S.1 S.2.1 dL_law_1239 rfl (lv_at hl 3 rfl) ?_
  refine kc_ri hF (cR_winner l D adR cR kk hF.1 hr) (As := []) (rest := [.int r]) (k := 0) S hW (gd_V m_1017 m_1018 m_1019 m_5 m_1020) (by decide +kernel) ⟨(Nat.le_of_ble_eq_true rfl), (Nat.le_of_ble_eq_true rfl)⟩ rfl hl.1 rfl (Nat.le_of_ble_eq_true rfl) ⟨by show cells ≤ 601024; omega, by show slots ≤ 7293034; omega⟩ dL_law_1240 (fun H locs hW => ?_)
  refine lv_icmp_eq (tgt := 1248) S.1 S.2.1 dL_law_1243 (by decide) (fun _ => ?_) (fun hne => absurd rfl hne)
  have hle : nn σ ≤ nn σ' := Nat.le_of_eq (kn_B_winner σ  _ hc).symm
  refine W.widen (k := cells + cst σ σ' + 1) (n := slots + sst σ σ' + 6) (by omega) (by omega) ?_
  exact kq _ _ _ _ _ _ _ _ ls hW hrel' hle hl
set_option maxRecDepth 100000 in
set_option maxHeartbeats 4000000 in
theorem lk_member (hst : l.stackTraces = false) (S : CallFix p m c cL_law 8 s args wsL RL) (hF : LF D cA cR adR kk cO s) (hX : va_X b L xs s s.heap) (hbl : b < s.heap.size) (hi : i + 6 ≤ L) (hL : L ≤ 3072) (hW : LW D ad cA cR adR kk aO cO aM aC aE ov σ ρ s H locs) (hrel : Rel σ ρ) (hl : lv_has ls 8 [(4, .int (nI i)), (0, .ref b), (1, .ref (ad 0)), (2, .ref (adR 35)), (3, .ref aO)]) (hc1 : cells + 2 * (1001 - nn σ) + 1 ≤ 601024) (hc2 : slots + 1300 * (1001 - nn σ) + 6 ≤ 7293034)
    (kq : ∀ (aM1 aC1 aE1 : Nat → Nat) (ov1 : Nat → Int64) (σ1 : SC) (ρ1 : SR) (H1 : Heap) (locs1 : List Loc) (ls1 : Array Slot), LW D ad cA cR adR kk aO cO aM1 aC1 aE1 ov1 σ1 ρ1 s H1 locs1 → Rel σ1 ρ1 → nn σ ≤ nn σ1 → lv_has ls1 8 [(4, .int (nI i)), (0, .ref b), (1, .ref (ad 0)), (2, .ref (adR 35)), (3, .ref aO)] → W p l e room_1 s m args below meth c H1 locs1 (cells + cst σ σ1 + 1) (slots + sst σ σ1 + 6) Q (F0 m 1248 ls1 [])) : W p l e room_1 s m args below meth c H locs cells slots Q (F0 m 512 ls []) := by
  have hwf := hW.2.2.1.nn
  obtain ⟨o, r, ρ', hc, hr, hrel', hcase⟩ := eq_member hrel (xs (i + 1)) (xs (i + 2))
  have h31 : gz ρ' 31 = lo1 o := by rcases hcase with ⟨rfl, h⟩ | ⟨rfl, h⟩ <;> exact h
  refine lv_aload_n S.1 S.2.1 dL_law_512 rfl (lv_at hl 2 rfl) ?_
  refine sc_at (k := 1) (v := 1) S hX hbl hW.2.2.2 hi hL (lv_at hl 0 rfl) (lv_at hl 1 rfl) (by decide) rfl rfl dL_law_513 dL_law_514 dL_law_516 dL_law_517 dL_law_518 ?_
  refine sc_at (k := 2) (v := 2) S hX hbl hW.2.2.2 hi hL (lv_at hl 0 rfl) (lv_at hl 1 rfl) (by decide) rfl rfl dL_law_519 dL_law_520 dL_law_522 dL_law_523 dL_law_524 ?_
  refine lv_aload_n S.1 S.2.1 dL_law_525 rfl (lv_at hl 4 rfl) ?_
  refine kc_h hF (cH_member l hst D ad cA kk (LA s adR) aM aC aE hc) (As := [.ref (ad 0), .int (xs (i + 1)), .int (xs (i + 2)), .ref aO]) (rest := []) (k := 4) S hW (gd_SW m_651 m_652 m_653 m_654) (by decide +kernel) ⟨(Nat.le_of_ble_eq_true rfl), (Nat.le_of_ble_eq_true rfl)⟩ rfl hl.1 rfl (Nat.le_of_ble_eq_true rfl) ⟨by show cells + 1 ≤ 601024; omega, by show slots + 6 ≤ 7293034; omega⟩ dL_law_526 (fun H locs hW => ?_)
  refine lv_istore (lv' := [(5, .int (lo1 o)), (4, .int (nI i)), (0, .ref b), (1, .ref (ad 0)), (2, .ref (adR 35)), (3, .ref aO)]) S.1 S.2.1 dL_law_529 hl (by decide) rfl (fun ls hl => ?_)
  refine lv_aload_n S.1 S.2.1 dL_law_531 rfl (lv_at hl 4 rfl) ?_
  refine sc_at (k := 1) (v := 1) S hX hbl hW.2.2.2 hi hL (lv_at hl 1 rfl) (lv_at hl 2 rfl) (by decide) rfl rfl dL_law_532 dL_law_533 dL_law_535 dL_law_536 dL_law_537 ?_
  refine sc_at (k := 2) (v := 2) S hX hbl hW.2.2.2 hi hL (lv_at hl 1 rfl) (lv_at hl 2 rfl) (by decide) rfl rfl dL_law_538 dL_law_539 dL_law_541 dL_law_542 dL_law_543 ?_
  refine kc_rl hF (cR_member l D adR cR kk hF.1 hr) (As := [.int (xs (i + 1)), .int (xs (i + 2))]) (rest := []) (k := 2) S hW (gd_V m_662 m_663 m_664 m_5 m_665) (by decide +kernel) ⟨(Nat.le_of_ble_eq_true rfl), (Nat.le_of_ble_eq_true rfl)⟩ rfl hl.1 rfl (Nat.le_of_ble_eq_true rfl) ⟨by show cells + 1 ≤ 601024; omega, by show slots + 6 ≤ 7293034; omega⟩ dL_law_544 (fun H locs hW => ?_)
  refine lv_lstore (lv' := [(6, .long r), (5, .int (lo1 o)), (4, .int (nI i)), (0, .ref b), (1, .ref (ad 0)), (2, .ref (adR 35)), (3, .ref aO)]) S.1 S.2.1 dL_law_547 hl (by decide) rfl (fun ls hl => ?_)
  refine lv_aload_n S.1 S.2.1 dL_law_549 rfl (lv_at hl 5 rfl) ?_
  refine kc_ri hF (cR_thrown l D adR cR kk hF.1 (rfl : fR_thrown ρ' = some (gz ρ' 31))) (As := []) (rest := []) (k := 0) S hW (gd_V m_666 m_667 m_668 m_5 m_669) (by decide +kernel) ⟨(Nat.le_of_ble_eq_true rfl), (Nat.le_of_ble_eq_true rfl)⟩ rfl hl.1 rfl (Nat.le_of_ble_eq_true rfl) ⟨by show cells + 1 ≤ 601024; omega, by show slots + 6 ≤ 7293034; omega⟩ dL_law_550 (fun H locs hW => ?_)
  rw [h31]
  refine lv_iload S.1 S.2.1 dL_law_553 (lv_at hl 1 rfl) ?_
  refine lv_icmp_eq (tgt := 560) S.1 S.2.1 dL_law_555 (by decide) (fun _ => ?_) (fun hne => absurd rfl hne)
  refine lv_iload S.1 S.2.1 dL_law_560 (lv_at hl 1 rfl) ?_
  rcases hcase with ⟨rfl, -⟩ | ⟨rfl, -⟩
  · refine lv_if_ne (tgt := 576) S.1 S.2.1 dL_law_562 (by decide) (fun _ => ?_) (fun h => absurd h (by decide))
    refine lv_goto (tgt := 1248) S.1 S.2.1 dL_law_576 (by decide) ?_
    refine W.widen (k := cells + cst σ σ + 1) (n := slots + sst σ σ + 6) (by omega) (by omega) ?_
    exact kq _ _ _ _ _ _ _ _ ls hW hrel' (Nat.le_refl _) (lv_sub hl [2, 3, 4, 5, 6] rfl)
  · refine lv_if_ne (tgt := 576) S.1 S.2.1 dL_law_562 (by decide) (fun h => absurd rfl h) (fun _ => ?_)
    refine lv_aload_n S.1 S.2.1 dL_law_565 rfl (lv_at hl 6 rfl) ?_
    refine lv_iconst (v := (0 : Int32)) S.1 S.2.1 dL_law_566 (by decide) ?_
    refine out_at hF S hW dL_law_567 ?_
    refine lv_lload S.1 S.2.1 dL_law_568 (lv_at hl 0 rfl) ?_
    refine W.lcmp S.1 S.2.1 dL_law_570 ?_
    rw [lov_0, lg_self]
    refine lv_if_eq (tgt := 576) S.1 S.2.1 dL_law_571 (by decide) (fun _ => ?_) (fun hne => absurd rfl hne)
    refine lv_goto (tgt := 1248) S.1 S.2.1 dL_law_576 (by decide) ?_
    refine W.widen (k := cells + cst σ σ + 1) (n := slots + sst σ σ + 6) (by omega) (by omega) ?_
    exact kq _ _ _ _ _ _ _ _ ls hW hrel' (Nat.le_refl _) (lv_sub hl [2, 3, 4, 5, 6] rfl)
set_option maxRecDepth 100000 in
set_option maxHeartbeats 4000000 in
theorem lk_entry (hst : l.stackTraces = false) (S : CallFix p m c cL_law 8 s args wsL RL) (hF : LF D cA cR adR kk cO s) (hX : va_X b L xs s s.heap) (hbl : b < s.heap.size) (hi : i + 6 ≤ L) (hL : L ≤ 3072) (hW : LW D ad cA cR adR kk aO cO aM aC aE ov σ ρ s H locs) (hrel : Rel σ ρ) (hl : lv_has ls 8 [(4, .int (nI i)), (0, .ref b), (1, .ref (ad 0)), (2, .ref (adR 35)), (3, .ref aO)]) (hc1 : cells + 2 * (1001 - nn σ) + 1 ≤ 601024) (hc2 : slots + 1300 * (1001 - nn σ) + 6 ≤ 7293034)
    (kq : ∀ (aM1 aC1 aE1 : Nat → Nat) (ov1 : Nat → Int64) (σ1 : SC) (ρ1 : SR) (H1 : Heap) (locs1 : List Loc) (ls1 : Array Slot), LW D ad cA cR adR kk aO cO aM1 aC1 aE1 ov1 σ1 ρ1 s H1 locs1 → Rel σ1 ρ1 → nn σ ≤ nn σ1 → lv_has ls1 8 [(4, .int (nI i)), (0, .ref b), (1, .ref (ad 0)), (2, .ref (adR 35)), (3, .ref aO)] → W p l e room_1 s m args below meth c H1 locs1 (cells + cst σ σ1 + 1) (slots + sst σ σ1 + 6) Q (F0 m 1248 ls1 [])) : W p l e room_1 s m args below meth c H locs cells slots Q (F0 m 777 ls []) := by
  have hwf := hW.2.2.1.nn
  obtain ⟨o, r, ρ', hc, hr, hrel', hcase⟩ := eq_entry hrel (xs (i + 1)) (xs (i + 2))
  have h31 : gz ρ' 31 = lo1 o := by rcases hcase with ⟨rfl, h⟩ | ⟨rfl, h⟩ <;> exact h
  refine lv_aload_n S.1 S.2.1 dL_law_777 rfl (lv_at hl 2 rfl) ?_
  refine sc_at (k := 1) (v := 1) S hX hbl hW.2.2.2 hi hL (lv_at hl 0 rfl) (lv_at hl 1 rfl) (by decide) rfl rfl dL_law_778 dL_law_779 dL_law_781 dL_law_782 dL_law_783 ?_
  refine sc_at (k := 2) (v := 2) S hX hbl hW.2.2.2 hi hL (lv_at hl 0 rfl) (lv_at hl 1 rfl) (by decide) rfl rfl dL_law_784 dL_law_785 dL_law_787 dL_law_788 dL_law_789 ?_
  refine lv_aload_n S.1 S.2.1 dL_law_790 rfl (lv_at hl 4 rfl) ?_
  refine kc_h hF (cH_entry l hst D ad cA kk (LA s adR) aM aC aE hc) (As := [.ref (ad 0), .int (xs (i + 1)), .int (xs (i + 2)), .ref aO]) (rest := []) (k := 4) S hW (gd_SW m_823 m_824 m_653 m_825) (by decide +kernel) ⟨(Nat.le_of_ble_eq_true rfl), (Nat.le_of_ble_eq_true rfl)⟩ rfl hl.1 rfl (Nat.le_of_ble_eq_true rfl) ⟨by show cells + 1 ≤ 601024; omega, by show slots + 6 ≤ 7293034; omega⟩ dL_law_791 (fun H locs hW => ?_)
  refine lv_istore (lv' := [(5, .int (lo1 o)), (4, .int (nI i)), (0, .ref b), (1, .ref (ad 0)), (2, .ref (adR 35)), (3, .ref aO)]) S.1 S.2.1 dL_law_794 hl (by decide) rfl (fun ls hl => ?_)
  refine lv_aload_n S.1 S.2.1 dL_law_796 rfl (lv_at hl 4 rfl) ?_
  refine sc_at (k := 1) (v := 1) S hX hbl hW.2.2.2 hi hL (lv_at hl 1 rfl) (lv_at hl 2 rfl) (by decide) rfl rfl dL_law_797 dL_law_798 dL_law_800 dL_law_801 dL_law_802 ?_
  refine sc_at (k := 2) (v := 2) S hX hbl hW.2.2.2 hi hL (lv_at hl 1 rfl) (lv_at hl 2 rfl) (by decide) rfl rfl dL_law_803 dL_law_804 dL_law_806 dL_law_807 dL_law_808 ?_
  refine kc_rl hF (cR_entry l D adR cR kk hF.1 hr) (As := [.int (xs (i + 1)), .int (xs (i + 2))]) (rest := []) (k := 2) S hW (gd_V m_836 m_837 m_838 m_5 m_839) (by decide +kernel) ⟨(Nat.le_of_ble_eq_true rfl), (Nat.le_of_ble_eq_true rfl)⟩ rfl hl.1 rfl (Nat.le_of_ble_eq_true rfl) ⟨by show cells + 1 ≤ 601024; omega, by show slots + 6 ≤ 7293034; omega⟩ dL_law_809 (fun H locs hW => ?_)
  refine lv_lstore (lv' := [(6, .long r), (5, .int (lo1 o)), (4, .int (nI i)), (0, .ref b), (1, .ref (ad 0)), (2, .ref (adR 35)), (3, .ref aO)]) S.1 S.2.1 dL_law_812 hl (by decide) rfl (fun ls hl => ?_)
  refine lv_aload_n S.1 S.2.1 dL_law_814 rfl (lv_at hl 5 rfl) ?_
  refine kc_ri hF (cR_thrown l D adR cR kk hF.1 (rfl : fR_thrown ρ' = some (gz ρ' 31))) (As := []) (rest := []) (k := 0) S hW (gd_V m_666 m_667 m_668 m_5 m_669) (by decide +kernel) ⟨(Nat.le_of_ble_eq_true rfl), (Nat.le_of_ble_eq_true rfl)⟩ rfl hl.1 rfl (Nat.le_of_ble_eq_true rfl) ⟨by show cells + 1 ≤ 601024; omega, by show slots + 6 ≤ 7293034; omega⟩ dL_law_815 (fun H locs hW => ?_)
  rw [h31]
  refine lv_iload S.1 S.2.1 dL_law_818 (lv_at hl 1 rfl) ?_
  refine lv_icmp_eq (tgt := 825) S.1 S.2.1 dL_law_820 (by decide) (fun _ => ?_) (fun hne => absurd rfl hne)
  refine lv_iload S.1 S.2.1 dL_law_825 (lv_at hl 1 rfl) ?_
  rcases hcase with ⟨rfl, -⟩ | ⟨rfl, -⟩
  · refine lv_if_ne (tgt := 841) S.1 S.2.1 dL_law_827 (by decide) (fun _ => ?_) (fun h => absurd h (by decide))
    refine lv_goto (tgt := 1248) S.1 S.2.1 dL_law_841 (by decide) ?_
    refine W.widen (k := cells + cst σ σ + 1) (n := slots + sst σ σ + 6) (by omega) (by omega) ?_
    exact kq _ _ _ _ _ _ _ _ ls hW hrel' (Nat.le_refl _) (lv_sub hl [2, 3, 4, 5, 6] rfl)
  · refine lv_if_ne (tgt := 841) S.1 S.2.1 dL_law_827 (by decide) (fun h => absurd rfl h) (fun _ => ?_)
    refine lv_aload_n S.1 S.2.1 dL_law_830 rfl (lv_at hl 6 rfl) ?_
    refine lv_iconst (v := (0 : Int32)) S.1 S.2.1 dL_law_831 (by decide) ?_
    refine out_at hF S hW dL_law_832 ?_
    refine lv_lload S.1 S.2.1 dL_law_833 (lv_at hl 0 rfl) ?_
    refine W.lcmp S.1 S.2.1 dL_law_835 ?_
    rw [lov_0, lg_self]
    refine lv_if_eq (tgt := 841) S.1 S.2.1 dL_law_836 (by decide) (fun _ => ?_) (fun hne => absurd rfl hne)
    refine lv_goto (tgt := 1248) S.1 S.2.1 dL_law_841 (by decide) ?_
    refine W.widen (k := cells + cst σ σ + 1) (n := slots + sst σ σ + 6) (by omega) (by omega) ?_
    exact kq _ _ _ _ _ _ _ _ ls hW hrel' (Nat.le_refl _) (lv_sub hl [2, 3, 4, 5, 6] rfl)
set_option maxRecDepth 100000 in
set_option maxHeartbeats 4000000 in
theorem lk_balance (hst : l.stackTraces = false) (S : CallFix p m c cL_law 8 s args wsL RL) (hF : LF D cA cR adR kk cO s) (hX : va_X b L xs s s.heap) (hbl : b < s.heap.size) (hi : i + 6 ≤ L) (hL : L ≤ 3072) (hW : LW D ad cA cR adR kk aO cO aM aC aE ov σ ρ s H locs) (hrel : Rel σ ρ) (hl : lv_has ls 8 [(4, .int (nI i)), (0, .ref b), (1, .ref (ad 0)), (2, .ref (adR 35)), (3, .ref aO)]) (hc1 : cells + 2 * (1001 - nn σ) + 1 ≤ 601024) (hc2 : slots + 1300 * (1001 - nn σ) + 6 ≤ 7293034)
    (kq : ∀ (aM1 aC1 aE1 : Nat → Nat) (ov1 : Nat → Int64) (σ1 : SC) (ρ1 : SR) (H1 : Heap) (locs1 : List Loc) (ls1 : Array Slot), LW D ad cA cR adR kk aO cO aM1 aC1 aE1 ov1 σ1 ρ1 s H1 locs1 → Rel σ1 ρ1 → nn σ ≤ nn σ1 → lv_has ls1 8 [(4, .int (nI i)), (0, .ref b), (1, .ref (ad 0)), (2, .ref (adR 35)), (3, .ref aO)] → W p l e room_1 s m args below meth c H1 locs1 (cells + cst σ σ1 + 1) (slots + sst σ σ1 + 6) Q (F0 m 1248 ls1 [])) : W p l e room_1 s m args below meth c H locs cells slots Q (F0 m 869 ls []) := by
  have hwf := hW.2.2.1.nn
  obtain ⟨o, r, ρ', hc, hr, hrel', hcase⟩ := eq_balance hrel (xs (i + 1)) (xs (i + 2)) (xs (i + 3))
  have h31 : gz ρ' 31 = lo1 o := by rcases hcase with ⟨rfl, h⟩ | ⟨rfl, h⟩ <;> exact h
  refine lv_aload_n S.1 S.2.1 dL_law_869 rfl (lv_at hl 2 rfl) ?_
  refine sc_at (k := 1) (v := 1) S hX hbl hW.2.2.2 hi hL (lv_at hl 0 rfl) (lv_at hl 1 rfl) (by decide) rfl rfl dL_law_870 dL_law_871 dL_law_873 dL_law_874 dL_law_875 ?_
  refine sc_at (k := 2) (v := 2) S hX hbl hW.2.2.2 hi hL (lv_at hl 0 rfl) (lv_at hl 1 rfl) (by decide) rfl rfl dL_law_876 dL_law_877 dL_law_879 dL_law_880 dL_law_881 ?_
  refine sc_at (k := 3) (v := 3) S hX hbl hW.2.2.2 hi hL (lv_at hl 0 rfl) (lv_at hl 1 rfl) (by decide) rfl rfl dL_law_882 dL_law_883 dL_law_885 dL_law_886 dL_law_887 ?_
  refine lv_aload_n S.1 S.2.1 dL_law_888 rfl (lv_at hl 4 rfl) ?_
  refine kc_h hF (cH_balance l hst D ad cA kk (LA s adR) aM aC aE hc) (As := [.ref (ad 0), .int (xs (i + 1)), .int (xs (i + 2)), .int (xs (i + 3)), .ref aO]) (rest := []) (k := 5) S hW (gd_SW m_852 m_853 m_653 m_854) (by decide +kernel) ⟨(Nat.le_of_ble_eq_true rfl), (Nat.le_of_ble_eq_true rfl)⟩ rfl hl.1 rfl (Nat.le_of_ble_eq_true rfl) ⟨by show cells + 1 ≤ 601024; omega, by show slots + 6 ≤ 7293034; omega⟩ dL_law_889 (fun H locs hW => ?_)
  refine lv_istore (lv' := [(5, .int (lo1 o)), (4, .int (nI i)), (0, .ref b), (1, .ref (ad 0)), (2, .ref (adR 35)), (3, .ref aO)]) S.1 S.2.1 dL_law_892 hl (by decide) rfl (fun ls hl => ?_)
  refine lv_aload_n S.1 S.2.1 dL_law_894 rfl (lv_at hl 4 rfl) ?_
  refine sc_at (k := 1) (v := 1) S hX hbl hW.2.2.2 hi hL (lv_at hl 1 rfl) (lv_at hl 2 rfl) (by decide) rfl rfl dL_law_895 dL_law_896 dL_law_898 dL_law_899 dL_law_900 ?_
  refine sc_at (k := 2) (v := 2) S hX hbl hW.2.2.2 hi hL (lv_at hl 1 rfl) (lv_at hl 2 rfl) (by decide) rfl rfl dL_law_901 dL_law_902 dL_law_904 dL_law_905 dL_law_906 ?_
  refine sc_at (k := 3) (v := 3) S hX hbl hW.2.2.2 hi hL (lv_at hl 1 rfl) (lv_at hl 2 rfl) (by decide) rfl rfl dL_law_907 dL_law_908 dL_law_910 dL_law_911 dL_law_912 ?_
  refine kc_rl hF (cR_balance l D adR cR kk hF.1 hr) (As := [.int (xs (i + 1)), .int (xs (i + 2)), .int (xs (i + 3))]) (rest := []) (k := 3) S hW (gd_V m_867 m_868 m_869 m_5 m_870) (by decide +kernel) ⟨(Nat.le_of_ble_eq_true rfl), (Nat.le_of_ble_eq_true rfl)⟩ rfl hl.1 rfl (Nat.le_of_ble_eq_true rfl) ⟨by show cells + 1 ≤ 601024; omega, by show slots + 6 ≤ 7293034; omega⟩ dL_law_913 (fun H locs hW => ?_)
  refine lv_lstore (lv' := [(6, .long r), (5, .int (lo1 o)), (4, .int (nI i)), (0, .ref b), (1, .ref (ad 0)), (2, .ref (adR 35)), (3, .ref aO)]) S.1 S.2.1 dL_law_916 hl (by decide) rfl (fun ls hl => ?_)
  refine lv_aload_n S.1 S.2.1 dL_law_918 rfl (lv_at hl 5 rfl) ?_
  refine kc_ri hF (cR_thrown l D adR cR kk hF.1 (rfl : fR_thrown ρ' = some (gz ρ' 31))) (As := []) (rest := []) (k := 0) S hW (gd_V m_666 m_667 m_668 m_5 m_669) (by decide +kernel) ⟨(Nat.le_of_ble_eq_true rfl), (Nat.le_of_ble_eq_true rfl)⟩ rfl hl.1 rfl (Nat.le_of_ble_eq_true rfl) ⟨by show cells + 1 ≤ 601024; omega, by show slots + 6 ≤ 7293034; omega⟩ dL_law_919 (fun H locs hW => ?_)
  rw [h31]
  refine lv_iload S.1 S.2.1 dL_law_922 (lv_at hl 1 rfl) ?_
  refine lv_icmp_eq (tgt := 929) S.1 S.2.1 dL_law_924 (by decide) (fun _ => ?_) (fun hne => absurd rfl hne)
  refine lv_iload S.1 S.2.1 dL_law_929 (lv_at hl 1 rfl) ?_
  rcases hcase with ⟨rfl, -⟩ | ⟨rfl, -⟩
  · refine lv_if_ne (tgt := 945) S.1 S.2.1 dL_law_931 (by decide) (fun _ => ?_) (fun h => absurd h (by decide))
    refine lv_goto (tgt := 1248) S.1 S.2.1 dL_law_945 (by decide) ?_
    refine W.widen (k := cells + cst σ σ + 1) (n := slots + sst σ σ + 6) (by omega) (by omega) ?_
    exact kq _ _ _ _ _ _ _ _ ls hW hrel' (Nat.le_refl _) (lv_sub hl [2, 3, 4, 5, 6] rfl)
  · refine lv_if_ne (tgt := 945) S.1 S.2.1 dL_law_931 (by decide) (fun h => absurd rfl h) (fun _ => ?_)
    refine lv_aload_n S.1 S.2.1 dL_law_934 rfl (lv_at hl 6 rfl) ?_
    refine lv_iconst (v := (0 : Int32)) S.1 S.2.1 dL_law_935 (by decide) ?_
    refine out_at hF S hW dL_law_936 ?_
    refine lv_lload S.1 S.2.1 dL_law_937 (lv_at hl 0 rfl) ?_
    refine W.lcmp S.1 S.2.1 dL_law_939 ?_
    rw [lov_0, lg_self]
    refine lv_if_eq (tgt := 945) S.1 S.2.1 dL_law_940 (by decide) (fun _ => ?_) (fun hne => absurd rfl hne)
    refine lv_goto (tgt := 1248) S.1 S.2.1 dL_law_945 (by decide) ?_
    refine W.widen (k := cells + cst σ σ + 1) (n := slots + sst σ σ + 6) (by omega) (by omega) ?_
    exact kq _ _ _ _ _ _ _ _ ls hW hrel' (Nat.le_refl _) (lv_sub hl [2, 3, 4, 5, 6] rfl)
end LC2
