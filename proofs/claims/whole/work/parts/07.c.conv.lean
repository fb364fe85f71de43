theorem adr_cons1 (x : Nat × va_E) (b : va_W) : adr (x :: b) = [x.1] ++ adr b := rfl
theorem cds_cons {cO : ClassId} {la lc : Nat → Nat} {lr : Nat → Nat → Option Nat} {j : Nat} (h : lc j ≠ 0) : cds cO la lc lr j = [(la j, .inl (cO, lc j, .inr (.inr (.inr (.inr (lr j))))))] := if_neg h
theorem cds_nil {cO : ClassId} {la lc : Nat → Nat} {lr : Nat → Nat → Option Nat} {j : Nat} (h : lc j = 0) : cds cO la lc lr j = [] := if_pos h
theorem capOf_pos (n : Nat) : capOf (n + 1) ≠ 0 := by unfold capOf; rw [if_neg (by omega)]; repeat (first | (split; omega) | omega)
theorem capOf_zero {n : Nat} (h : capOf n = 0) : n = 0 := by
  cases n with
  | zero => rfl
  | succ n => exact absurd h (capOf_pos n)
theorem LI.dold {A : Nat → Prop} {kk : Nat → Nat} {a : Nat → Nat} {n j : Nat} {cO : ClassId} {la lc : Nat → Nat} {lr : Nat → Nat → Option Nat} (hE : ¬ A (kk 41)) (h : LI (kk 41) a n (la j) (lc j) (lr j)) : (adr (cds cO la lc lr j) = [] ∧ ¬ A (la j) ∧ n = 0) ∨ adr (cds cO la lc lr j) = [la j] := by
  by_cases h0 : lc j = 0
  · refine Or.inl ⟨by rw [cds_nil h0]; rfl, by rw [h.2.1 h0]; exact hE, capOf_zero (by rw [← h.1]; exact h0)⟩
  · exact Or.inr (by rw [cds_cons h0]; rfl)
theorem LI.add {e0 : Nat} {a : Nat → Nat} {n la lc q da : Nat} {lr row : Nat → Option Nat} (h : LI e0 a n la lc lr) (h1 : ∀ i, i < n → row i = lr i) (h2 : row n = some q) : LI e0 (va_up a n q) (n + 1) da (capOf (n + 1)) row := by
  refine ⟨rfl, fun h0 => absurd h0 (capOf_pos n), fun i hi => ?_⟩
  by_cases e : i = n
  · subst e; rw [va_up_self]; exact h2
  · rw [va_up_ne _ _ e, h1 i (by omega)]; exact h.2.2 i (by omega)
theorem ces_add {aM aE : Nat → Nat} {n : Nat} {ow : Nat → Nat} {en : Nat → Nat → Int32} {am : Nat → Int64} {q w : Nat} {f : Nat → Int32} {a : Int64} : ces aM (va_up aE n q) (n + 1) (va_up ow n w) (fun k => upd (en k) n (f k)) (vp_updL am n a) = ces aM aE n ow en am ++ [(q, .inr (4, [.ref (aM w), .int (f 1), .int (f 2), .long a, .int (f 4)]))] := by
  unfold ces
  rw [List.range_succ, List.map_append]
  congr 1
  · apply List.map_congr_left
    intro i hi
    have hne : i ≠ n := Nat.ne_of_lt (List.mem_range.mp hi)
    simp [va_up, upd, vp_updL, hne]
  · simp [va_up, upd, vp_updL]
theorem cms_add {aM : Nat → Nat} {n : Nat} {me : Nat → Nat → Int32} {ba : Nat → Int64} {q : Nat} {f : Nat → Int32} {b : Int64} : cms (va_up aM n q) (n + 1) (fun k => upd (me k) n (f k)) (vp_updL ba n b) = cms aM n me ba ++ [(q, .inr (7, [.int (f 0), .int (f 1), .int (f 2), .int (f 3), .int (f 4), .int (f 5), .long b, .int (f 7), .int (f 8), .int (f 9), .int (f 10)]))] := by
  unfold cms
  rw [List.range_succ, List.map_append]
  congr 1
  · apply List.map_congr_left
    intro i hi
    have hne : i ≠ n := Nat.ne_of_lt (List.mem_range.mp hi)
    simp [va_up, upd, vp_updL, hne]
  · simp [va_up, upd, vp_updL]
theorem ccs_add {aC : Nat → Nat} {n : Nat} {ch : Nat → Nat → Int32} {q : Nat} {f : Nat → Int32} : ccs (va_up aC n q) (n + 1) (fun k => upd (ch k) n (f k)) = ccs aC n ch ++ [(q, .inr (2, [.int (f 0), .int (f 1), .int (f 2), .int (f 3), .int (f 4), .int (f 5), .int (f 6), .int (f 7)]))] := by
  unfold ccs
  rw [List.range_succ, List.map_append]
  congr 1
  · apply List.map_congr_left
    intro i hi
    have hne : i ≠ n := Nat.ne_of_lt (List.mem_range.mp hi)
    simp [va_up, upd, hne]
  · simp [va_up, upd]
theorem ces_keep {aM aE : Nat → Nat} {n q m : Nat} {ow : Nat → Nat} {en : Nat → Nat → Int32} {am : Nat → Int64} (h : ∀ i, i < n → ow i < m) : ces (va_up aM m q) aE n ow en am = ces aM aE n ow en am := by
  unfold ces
  apply List.map_congr_left
  intro i hi
  rw [va_up_ne aM q (Nat.ne_of_lt (h i (List.mem_range.mp hi)))]
section CV
variable {A : Nat → Prop} {D : va_G} {ad aM aC aE : Nat → Nat} {cA : Nat → ClassId} {kk : Nat → Nat} {X ws2 : va_W} {σ : SC} {H : Heap} {s : State} {lm : Nat → Int32} {la lc : Nat → Nat} {lr : Nat → Nat → Option Nat} {q w da : Nat} {f : Nat → Int32} {am : Int64} {row : Nat → Option Nat}
theorem ci_addE (hD1 : va_D A (ccells ad aM aC aE cA lm la lc lr (X ++ [(q, .inr (4, [.ref (aM w), .int (f 1), .int (f 2), .long am, .int (f 4)]))]) σ)) (hP2 : va_P D vwCl ws2 H) (hD2 : va_D A ws2) (hE : ¬ A (kk 41)) (hL0 : LI (kk 41) aM (xn σ 0) (la 0) (lc 0) (lr 0)) (hL1 : LI (kk 41) aC (xn σ 1) (la 1) (lc 1) (lr 1)) (hL2 : LI (kk 41) aE (xn σ 2) (la 2) (lc 2) (lr 2))
    (hG : Grown (ccells ad aM aC aE cA lm la lc lr (X ++ [(q, .inr (4, [.ref (aM w), .int (f 1), .int (f 2), .long am, .int (f 4)]))]) σ) ws2 (ad 14) (la 2) (.inr (0, [.int (lm 2 + 1), .ref da, .int (nI (xn σ 2 + 1))])) da (.inl (cA 30, capOf (xn σ 2 + 1), .inr (.inr (.inr (.inr row))))) (xn σ 2)) (hr1 : ∀ i, i < xn σ 2 → row i = lr 2 i) (hr2 : row (xn σ 2) = some q) : CI D ad cA kk A aM aC (va_up aE (xn σ 2) q) X (addE σ w f am) s H := by
  have hT : ccells ad aM aC (va_up aE (xn σ 2) q) cA (upd lm 2 (lm 2 + 1)) (va_up la 2 da) (va_up lc 2 (capOf (xn σ 2 + 1))) (va_up lr 2 row) X (addE σ w f am) = ((cfix ad aC cA lm la σ).take 14 ++ (ad 14, .inr (0, [.int (lm 2 + 1), .ref da, .int (nI (xn σ 2 + 1))])) :: (cfix ad aC cA lm la σ).drop 15) ++ (cms aM (xn σ 0) σ.2.2.2.2.1 σ.2.2.2.2.2.1 ++ (ccs aC (xn σ 1) σ.2.2.2.2.2.2.1 ++ ((ces aM aE (xn σ 2) σ.2.2.2.2.2.2.2.1 σ.2.2.2.2.2.2.2.2.1 σ.2.2.2.2.2.2.2.2.2 ++ [(q, .inr (4, [.ref (aM w), .int (f 1), .int (f 2), .long am, .int (f 4)]))]) ++ (cds (cA 30) la lc lr 0 ++ (cds (cA 30) la lc lr 1 ++ ([(da, .inl (cA 30, capOf (xn σ 2 + 1), .inr (.inr (.inr (.inr row)))))] ++ X)))))) := by
    rw [← ces_add]
    have e2 : cds (cA 30) (va_up la 2 da) (va_up lc 2 (capOf (xn σ 2 + 1))) (va_up lr 2 row) 2 = [(da, .inl (cA 30, capOf (xn σ 2 + 1), .inr (.inr (.inr (.inr row)))))] := cds_cons (capOf_pos _)
    rw [← e2]
    rfl
  have hS : ccells ad aM aC aE cA lm la lc lr (X ++ [(q, .inr (4, [.ref (aM w), .int (f 1), .int (f 2), .long am, .int (f 4)]))]) σ = ((cfix ad aC cA lm la σ).take 14 ++ (ad 14, .inr (0, [.int (lm 2), .ref (la 2), .int (nI (xn σ 2))])) :: (cfix ad aC cA lm la σ).drop 15) ++ (cms aM (xn σ 0) σ.2.2.2.2.1 σ.2.2.2.2.2.1 ++ (ccs aC (xn σ 1) σ.2.2.2.2.2.2.1 ++ (ces aM aE (xn σ 2) σ.2.2.2.2.2.2.2.1 σ.2.2.2.2.2.2.2.2.1 σ.2.2.2.2.2.2.2.2.2 ++ (cds (cA 30) la lc lr 0 ++ (cds (cA 30) la lc lr 1 ++ (cds (cA 30) la lc lr 2 ++ (X ++ [(q, .inr (4, [.ref (aM w), .int (f 1), .int (f 2), .long am, .int (f 4)]))]))))))) := rfl
  generalize hc1 : (cfix ad aC cA lm la σ).take 14 = c1 at hT hS
  generalize hc2 : (cfix ad aC cA lm la σ).drop 15 = c2 at hT hS
  have conv := grow_conv (D := D) (H := H) (K := c1 ++ (c2 ++ (cms aM (xn σ 0) σ.2.2.2.2.1 σ.2.2.2.2.2.1 ++ (ccs aC (xn σ 1) σ.2.2.2.2.2.2.1 ++ (ces aM aE (xn σ 2) σ.2.2.2.2.2.2.2.1 σ.2.2.2.2.2.2.2.2.1 σ.2.2.2.2.2.2.2.2.2 ++ (cds (cA 30) la lc lr 0 ++ (cds (cA 30) la lc lr 1 ++ (X ++ [(q, .inr (4, [.ref (aM w), .int (f 1), .int (f 2), .long am, .int (f 4)]))])))))))) (dold := adr (cds (cA 30) la lc lr 2)) (T := ccells ad aM aC (va_up aE (xn σ 2) q) cA (upd lm 2 (lm 2 + 1)) (va_up la 2 da) (va_up lc 2 (capOf (xn σ 2 + 1))) (va_up lr 2 row) X (addE σ w f am)) hD1 hP2 hD2 hG ?_ ?_ (LI.dold hE hL2) ?_ ?_
  · exact ⟨upd lm 2 (lm 2 + 1), va_up la 2 da, va_up lc 2 (capOf (xn σ 2 + 1)), va_up lr 2 row, conv.1, conv.2, hL0, hL1, hL2.add hr1 hr2⟩
  · intro a
    rw [hS]
    simp only [adr_app, adr_cons1, adr_nil, List.count_append, List.count_nil]
    omega
  · intro y hy
    rw [hS]
    simp only [List.mem_append, List.mem_cons, List.not_mem_nil, or_false] at hy ⊢
    rcases hy with h | h | h | h | h | h | h | h | h <;> simp [h]
  · intro y hy
    rw [hT] at hy
    simp only [List.mem_append, List.mem_cons, List.not_mem_nil, or_false] at hy ⊢
    rcases hy with (h | h | h) | h | h | (h | h) | h | h | h | h <;> simp [h]
  · intro a
    rw [hT]
    simp only [adr_app, adr_cons1, adr_nil, List.count_append, List.count_nil]
    omega
end CV
def cfixq (ad : Nat → Nat) (q8 : Nat) (cA : Nat → ClassId) (lm : Nat → Int32) (la : Nat → Nat) (σ : SC) : va_W := [(ad 0, .inr (11, [.ref (ad 1), .ref (ad 3), .ref (ad 7), .ref (ad 8), .ref (ad 15), .ref (ad 18)])), (ad 1, .inr (9, [.ref (ad 2), .int (xz σ 0)])), (ad 2, .inl (cA 2, 200, .inl (xf σ 0))), (ad 3, .inr (8, [.ref (ad 4), .ref (ad 5), .ref (ad 6), .int (xz σ 1), .int (xz σ 2)])), (ad 4, .inl (cA 4, 60, .inl (xf σ 1))), (ad 5, .inl (cA 5, 60, .inl (xf σ 2))), (ad 6, .inl (cA 6, 60, .inl (xf σ 3))), (ad 7, .inr (10, [.ref (ad 1), .ref (ad 3), .int (xz σ 3), .int (xz σ 4), .int (xz σ 5)])), (ad 8, .inr (3, [.ref (ad 3), .ref (ad 9), .ref (ad 10), .ref (ad 11), .ref (ad 12), .ref (ad 13), .ref q8, .int (xz σ 6)])), (ad 9, .inl (cA 9, 10, .inl (xf σ 4))), (ad 10, .inl (cA 10, 10, .inl (xf σ 5))), (ad 11, .inr (0, [.int (lm 0), .ref (la 0), .int (nI (xn σ 0))])), (ad 12, .inr (0, [.int (lm 1), .ref (la 1), .int (nI (xn σ 1))])), (ad 13, .inr (6, [.ref (ad 14)])), (ad 14, .inr (0, [.int (lm 2), .ref (la 2), .int (nI (xn σ 2))])), (ad 15, .inr (1, [.ref (ad 16), .ref (ad 17)])), (ad 16, .inl (cA 16, 4, .inl (xf σ 6))), (ad 17, .inl (cA 17, 9, .inr (.inl (xg σ)))), (ad 18, .inr (5, [.ref (ad 19), .ref (ad 20), .ref (ad 21)])), (ad 19, .inl (cA 19, 180, .inl (xf σ 7))), (ad 20, .inl (cA 20, 180, .inl (xf σ 8))), (ad 21, .inl (cA 21, 11, .inl (xf σ 9)))]
section CV
variable {A : Nat → Prop} {D : va_G} {ad aM aC aE : Nat → Nat} {cA : Nat → ClassId} {kk : Nat → Nat} {X ws2 : va_W} {σ : SC} {H : Heap} {s : State} {lm : Nat → Int32} {la lc : Nat → Nat} {lr : Nat → Nat → Option Nat} {q w da : Nat} {f : Nat → Int32} {am : Int64} {row : Nat → Option Nat}
theorem ci_addM (hwf : ∀ i, i < xn σ 2 → xo σ i < xn σ 0) (hD1 : va_D A (ccells ad aM aC aE cA lm la lc lr (X ++ [(q, .inr (7, [.int (f 0), .int (f 1), .int (f 2), .int (f 3), .int (f 4), .int (f 5), .long am, .int (f 7), .int (f 8), .int (f 9), .int (f 10)]))]) σ)) (hP2 : va_P D vwCl ws2 H) (hD2 : va_D A ws2) (hE : ¬ A (kk 41)) (hL0 : LI (kk 41) aM (xn σ 0) (la 0) (lc 0) (lr 0)) (hL1 : LI (kk 41) aC (xn σ 1) (la 1) (lc 1) (lr 1)) (hL2 : LI (kk 41) aE (xn σ 2) (la 2) (lc 2) (lr 2))
    (hG : Grown (ccells ad aM aC aE cA lm la lc lr (X ++ [(q, .inr (7, [.int (f 0), .int (f 1), .int (f 2), .int (f 3), .int (f 4), .int (f 5), .long am, .int (f 7), .int (f 8), .int (f 9), .int (f 10)]))]) σ) ws2 (ad 11) (la 0) (.inr (0, [.int (lm 0 + 1), .ref da, .int (nI (xn σ 0 + 1))])) da (.inl (cA 30, capOf (xn σ 0 + 1), .inr (.inr (.inr (.inr row))))) (xn σ 0)) (hr1 : ∀ i, i < xn σ 0 → row i = lr 0 i) (hr2 : row (xn σ 0) = some q) : CI D ad cA kk A (va_up aM (xn σ 0) q) aC aE X (addM σ f am) s H := by
  have hT : ccells ad (va_up aM (xn σ 0) q) aC aE cA (upd lm 0 (lm 0 + 1)) (va_up la 0 da) (va_up lc 0 (capOf (xn σ 0 + 1))) (va_up lr 0 row) X (addM σ f am) = ((cfix ad aC cA lm la σ).take 11 ++ (ad 11, .inr (0, [.int (lm 0 + 1), .ref da, .int (nI (xn σ 0 + 1))])) :: (cfix ad aC cA lm la σ).drop 12) ++ ((cms aM (xn σ 0) σ.2.2.2.2.1 σ.2.2.2.2.2.1 ++ [(q, .inr (7, [.int (f 0), .int (f 1), .int (f 2), .int (f 3), .int (f 4), .int (f 5), .long am, .int (f 7), .int (f 8), .int (f 9), .int (f 10)]))]) ++ (ccs aC (xn σ 1) σ.2.2.2.2.2.2.1 ++ (ces aM aE (xn σ 2) σ.2.2.2.2.2.2.2.1 σ.2.2.2.2.2.2.2.2.1 σ.2.2.2.2.2.2.2.2.2 ++ ([(da, .inl (cA 30, capOf (xn σ 0 + 1), .inr (.inr (.inr (.inr row)))))] ++ (cds (cA 30) la lc lr 1 ++ (cds (cA 30) la lc lr 2 ++ (X))))))) := by
    rw [← cms_add, ← ces_keep (aM := aM) (q := q) (m := xn σ 0) (ow := σ.2.2.2.2.2.2.2.1) hwf]
    have e2 : cds (cA 30) (va_up la 0 da) (va_up lc 0 (capOf (xn σ 0 + 1))) (va_up lr 0 row) 0 = [(da, .inl (cA 30, capOf (xn σ 0 + 1), .inr (.inr (.inr (.inr row)))))] := cds_cons (capOf_pos _)
    rw [← e2]
    rfl
  have hS : ccells ad aM aC aE cA lm la lc lr (X ++ [(q, .inr (7, [.int (f 0), .int (f 1), .int (f 2), .int (f 3), .int (f 4), .int (f 5), .long am, .int (f 7), .int (f 8), .int (f 9), .int (f 10)]))]) σ = ((cfix ad aC cA lm la σ).take 11 ++ (ad 11, .inr (0, [.int (lm 0), .ref (la 0), .int (nI (xn σ 0))])) :: (cfix ad aC cA lm la σ).drop 12) ++ (cms aM (xn σ 0) σ.2.2.2.2.1 σ.2.2.2.2.2.1 ++ (ccs aC (xn σ 1) σ.2.2.2.2.2.2.1 ++ (ces aM aE (xn σ 2) σ.2.2.2.2.2.2.2.1 σ.2.2.2.2.2.2.2.2.1 σ.2.2.2.2.2.2.2.2.2 ++ (cds (cA 30) la lc lr 0 ++ (cds (cA 30) la lc lr 1 ++ (cds (cA 30) la lc lr 2 ++ ((X ++ [(q, .inr (7, [.int (f 0), .int (f 1), .int (f 2), .int (f 3), .int (f 4), .int (f 5), .long am, .int (f 7), .int (f 8), .int (f 9), .int (f 10)]))])))))))) := rfl
  generalize hc1 : (cfix ad aC cA lm la σ).take 11 = c1 at hT hS
  generalize hc2 : (cfix ad aC cA lm la σ).drop 12 = c2 at hT hS
  have conv := grow_conv (D := D) (H := H) (K := c1 ++ (c2 ++ (cms aM (xn σ 0) σ.2.2.2.2.1 σ.2.2.2.2.2.1 ++ (ccs aC (xn σ 1) σ.2.2.2.2.2.2.1 ++ (ces aM aE (xn σ 2) σ.2.2.2.2.2.2.2.1 σ.2.2.2.2.2.2.2.2.1 σ.2.2.2.2.2.2.2.2.2 ++ (cds (cA 30) la lc lr 1 ++ (cds (cA 30) la lc lr 2 ++ ((X ++ [(q, .inr (7, [.int (f 0), .int (f 1), .int (f 2), .int (f 3), .int (f 4), .int (f 5), .long am, .int (f 7), .int (f 8), .int (f 9), .int (f 10)]))]))))))))) (dold := adr (cds (cA 30) la lc lr 0)) (T := ccells ad (va_up aM (xn σ 0) q) aC aE cA (upd lm 0 (lm 0 + 1)) (va_up la 0 da) (va_up lc 0 (capOf (xn σ 0 + 1))) (va_up lr 0 row) X (addM σ f am)) hD1 hP2 hD2 hG ?_ ?_ (LI.dold hE hL0) ?_ ?_
  · exact ⟨upd lm 0 (lm 0 + 1), va_up la 0 da, va_up lc 0 (capOf (xn σ 0 + 1)), va_up lr 0 row, conv.1, conv.2, hL0.add hr1 hr2, hL1, hL2⟩
  · intro a
    rw [hS]
    simp only [adr_app, adr_cons1, adr_nil, List.count_append, List.count_nil]
    omega
  · intro y hy
    rw [hS]
    simp only [List.mem_append, List.mem_cons, List.not_mem_nil, or_false] at hy ⊢
    rcases hy with h | h | h | h | h | h | h | h | h <;> simp [h]
  · intro y hy
    rw [hT] at hy
    simp only [List.mem_append, List.mem_cons, List.not_mem_nil, or_false] at hy ⊢
    rcases hy with (h | h | h) | (h | h) | h | h | h | h | h | h <;> simp [h]
  · intro a
    rw [hT]
    simp only [adr_app, adr_cons1, adr_nil, List.count_append, List.count_nil]
    omega
theorem ci_addC (hD1 : va_D A (cfixq ad q cA lm la σ ++ (cms aM (xn σ 0) σ.2.2.2.2.1 σ.2.2.2.2.2.1 ++ (ccs aC (xn σ 1) σ.2.2.2.2.2.2.1 ++ (ces aM aE (xn σ 2) σ.2.2.2.2.2.2.2.1 σ.2.2.2.2.2.2.2.2.1 σ.2.2.2.2.2.2.2.2.2 ++ (cds (cA 30) la lc lr 0 ++ (cds (cA 30) la lc lr 1 ++ (cds (cA 30) la lc lr 2 ++ (X ++ [(q, .inr (2, [.int (f 0), .int (f 1), .int (f 2), .int (f 3), .int (f 4), .int (f 5), .int (f 6), .int (f 7)]))]))))))))) (hP2 : va_P D vwCl ws2 H) (hD2 : va_D A ws2) (hE : ¬ A (kk 41)) (hL0 : LI (kk 41) aM (xn σ 0) (la 0) (lc 0) (lr 0)) (hL1 : LI (kk 41) aC (xn σ 1) (la 1) (lc 1) (lr 1)) (hL2 : LI (kk 41) aE (xn σ 2) (la 2) (lc 2) (lr 2))
    (hG : Grown (cfixq ad q cA lm la σ ++ (cms aM (xn σ 0) σ.2.2.2.2.1 σ.2.2.2.2.2.1 ++ (ccs aC (xn σ 1) σ.2.2.2.2.2.2.1 ++ (ces aM aE (xn σ 2) σ.2.2.2.2.2.2.2.1 σ.2.2.2.2.2.2.2.2.1 σ.2.2.2.2.2.2.2.2.2 ++ (cds (cA 30) la lc lr 0 ++ (cds (cA 30) la lc lr 1 ++ (cds (cA 30) la lc lr 2 ++ (X ++ [(q, .inr (2, [.int (f 0), .int (f 1), .int (f 2), .int (f 3), .int (f 4), .int (f 5), .int (f 6), .int (f 7)]))])))))))) ws2 (ad 12) (la 1) (.inr (0, [.int (lm 1 + 1), .ref da, .int (nI (xn σ 1 + 1))])) da (.inl (cA 30, capOf (xn σ 1 + 1), .inr (.inr (.inr (.inr row))))) (xn σ 1)) (hr1 : ∀ i, i < xn σ 1 → row i = lr 1 i) (hr2 : row (xn σ 1) = some q) : CI D ad cA kk A aM (va_up aC (xn σ 1) q) aE X (yNow (addC σ f) (xn σ 1)) s H := by
  have hT : ccells ad aM (va_up aC (xn σ 1) q) aE cA (upd lm 1 (lm 1 + 1)) (va_up la 1 da) (va_up lc 1 (capOf (xn σ 1 + 1))) (va_up lr 1 row) X (yNow (addC σ f) (xn σ 1)) = ((cfixq ad q cA lm la σ).take 12 ++ (ad 12, .inr (0, [.int (lm 1 + 1), .ref da, .int (nI (xn σ 1 + 1))])) :: (cfixq ad q cA lm la σ).drop 13) ++ (cms aM (xn σ 0) σ.2.2.2.2.1 σ.2.2.2.2.2.1 ++ ((ccs aC (xn σ 1) σ.2.2.2.2.2.2.1 ++ [(q, .inr (2, [.int (f 0), .int (f 1), .int (f 2), .int (f 3), .int (f 4), .int (f 5), .int (f 6), .int (f 7)]))]) ++ (ces aM aE (xn σ 2) σ.2.2.2.2.2.2.2.1 σ.2.2.2.2.2.2.2.2.1 σ.2.2.2.2.2.2.2.2.2 ++ (cds (cA 30) la lc lr 0 ++ ([(da, .inl (cA 30, capOf (xn σ 1 + 1), .inr (.inr (.inr (.inr row)))))] ++ (cds (cA 30) la lc lr 2 ++ (X))))))) := by
    rw [← ccs_add]
    have e2 : cds (cA 30) (va_up la 1 da) (va_up lc 1 (capOf (xn σ 1 + 1))) (va_up lr 1 row) 1 = [(da, .inl (cA 30, capOf (xn σ 1 + 1), .inr (.inr (.inr (.inr row)))))] := cds_cons (capOf_pos _)
    rw [← e2]
    have e8 : va_up aC (xn σ 1) q (xn (yNow (addC σ f) (xn σ 1)) 3) = q := va_up_self _ _ _
    have e9 : cfix ad (va_up aC (xn σ 1) q) cA (upd lm 1 (lm 1 + 1)) (va_up la 1 da) (yNow (addC σ f) (xn σ 1)) = cfixq ad q cA (upd lm 1 (lm 1 + 1)) (va_up la 1 da) (yNow (addC σ f) (xn σ 1)) := congrArg (fun z => cfixq ad z cA (upd lm 1 (lm 1 + 1)) (va_up la 1 da) (yNow (addC σ f) (xn σ 1))) e8
    unfold ccells
    rw [e9]
    rfl
  have hS : cfixq ad q cA lm la σ ++ (cms aM (xn σ 0) σ.2.2.2.2.1 σ.2.2.2.2.2.1 ++ (ccs aC (xn σ 1) σ.2.2.2.2.2.2.1 ++ (ces aM aE (xn σ 2) σ.2.2.2.2.2.2.2.1 σ.2.2.2.2.2.2.2.2.1 σ.2.2.2.2.2.2.2.2.2 ++ (cds (cA 30) la lc lr 0 ++ (cds (cA 30) la lc lr 1 ++ (cds (cA 30) la lc lr 2 ++ (X ++ [(q, .inr (2, [.int (f 0), .int (f 1), .int (f 2), .int (f 3), .int (f 4), .int (f 5), .int (f 6), .int (f 7)]))]))))))) = ((cfixq ad q cA lm la σ).take 12 ++ (ad 12, .inr (0, [.int (lm 1), .ref (la 1), .int (nI (xn σ 1))])) :: (cfixq ad q cA lm la σ).drop 13) ++ (cms aM (xn σ 0) σ.2.2.2.2.1 σ.2.2.2.2.2.1 ++ (ccs aC (xn σ 1) σ.2.2.2.2.2.2.1 ++ (ces aM aE (xn σ 2) σ.2.2.2.2.2.2.2.1 σ.2.2.2.2.2.2.2.2.1 σ.2.2.2.2.2.2.2.2.2 ++ (cds (cA 30) la lc lr 0 ++ (cds (cA 30) la lc lr 1 ++ (cds (cA 30) la lc lr 2 ++ ((X ++ [(q, .inr (2, [.int (f 0), .int (f 1), .int (f 2), .int (f 3), .int (f 4), .int (f 5), .int (f 6), .int (f 7)]))])))))))) := rfl
  generalize hc1 : (cfixq ad q cA lm la σ).take 12 = c1 at hT hS
  generalize hc2 : (cfixq ad q cA lm la σ).drop 13 = c2 at hT hS
  have conv := grow_conv (D := D) (H := H) (K := c1 ++ (c2 ++ (cms aM (xn σ 0) σ.2.2.2.2.1 σ.2.2.2.2.2.1 ++ (ccs aC (xn σ 1) σ.2.2.2.2.2.2.1 ++ (ces aM aE (xn σ 2) σ.2.2.2.2.2.2.2.1 σ.2.2.2.2.2.2.2.2.1 σ.2.2.2.2.2.2.2.2.2 ++ (cds (cA 30) la lc lr 0 ++ (cds (cA 30) la lc lr 2 ++ ((X ++ [(q, .inr (2, [.int (f 0), .int (f 1), .int (f 2), .int (f 3), .int (f 4), .int (f 5), .int (f 6), .int (f 7)]))]))))))))) (dold := adr (cds (cA 30) la lc lr 1)) (T := ccells ad aM (va_up aC (xn σ 1) q) aE cA (upd lm 1 (lm 1 + 1)) (va_up la 1 da) (va_up lc 1 (capOf (xn σ 1 + 1))) (va_up lr 1 row) X (yNow (addC σ f) (xn σ 1))) hD1 hP2 hD2 hG ?_ ?_ (LI.dold hE hL1) ?_ ?_
  · exact ⟨upd lm 1 (lm 1 + 1), va_up la 1 da, va_up lc 1 (capOf (xn σ 1 + 1)), va_up lr 1 row, conv.1, conv.2, hL0, hL1.add hr1 hr2, hL2⟩
  · intro a
    rw [hS]
    simp only [adr_app, adr_cons1, adr_nil, List.count_append, List.count_nil]
    omega
  · intro y hy
    rw [hS]
    simp only [List.mem_append, List.mem_cons, List.not_mem_nil, or_false] at hy ⊢
    rcases hy with h | h | h | h | h | h | h | h | h <;> simp [h]
  · intro y hy
    rw [hT] at hy
    simp only [List.mem_append, List.mem_cons, List.not_mem_nil, or_false] at hy ⊢
    rcases hy with (h | h | h) | h | (h | h) | h | h | h | h | h <;> simp [h]
  · intro a
    rw [hT]
    simp only [adr_app, adr_cons1, adr_nil, List.count_append, List.count_nil]
    omega
end CV
