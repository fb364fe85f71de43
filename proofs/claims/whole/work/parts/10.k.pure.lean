/-! PURE: chances -/
def Wy (t r : Nat → Int64) : Nat → Nat → Int64
  | 0, k => if k = 0 then 1 else 0
  | n + 1, k => Wy t r n k * r n + (if k = 0 then 0 else Wy t r n (k - 1) * t n)
def Pr (t r : Nat → Int64) : Nat → Nat → Int64
  | 0, _ => 1
  | n + 1, s => Pr t r n s * (if s / 2 ^ n % 2 = 1 then t n else r n)
def Bc : Nat → Nat → Nat
  | 0, _ => 0
  | n + 1, s => Bc n s + s / 2 ^ n % 2
def sumS (g : Nat → Int64) : Nat → Int64
  | 0 => 0
  | m + 1 => sumS g m + g m
theorem bit_hi {m n s : Nat} (h : m < n) : (2 ^ n + s) / 2 ^ m % 2 = s / 2 ^ m % 2 := by
  obtain ⟨c, rfl⟩ : ∃ c, n = m + 1 + c := ⟨n - m - 1, by omega⟩
  have e : 2 ^ (m + 1 + c) = 2 ^ m * (2 * 2 ^ c) := by rw [Nat.pow_add, Nat.pow_succ, Nat.mul_assoc]
  rw [e, Nat.mul_add_div (Nat.two_pow_pos m)]
  omega
theorem bit_top {n s : Nat} (h : s < 2 ^ n) : (2 ^ n + s) / 2 ^ n % 2 = 1 ∧ s / 2 ^ n % 2 = 0 := by
  rw [Nat.add_div_left _ (Nat.two_pow_pos n), Nat.div_eq_of_lt h]
  exact ⟨rfl, rfl⟩
theorem Pr_hi (t r : Nat → Int64) (n s : Nat) : ∀ m, m ≤ n → Pr t r m (2 ^ n + s) = Pr t r m s
  | 0, _ => rfl
  | m + 1, h => by rw [Pr, Pr, Pr_hi t r n s m (by omega), bit_hi (by omega)]
theorem Bc_hi (n s : Nat) : ∀ m, m ≤ n → Bc m (2 ^ n + s) = Bc m s
  | 0, _ => rfl
  | m + 1, h => by rw [Bc, Bc, Bc_hi n s m (by omega), bit_hi (by omega)]
theorem sumS_add (g : Nat → Int64) (a : Nat) : ∀ b, sumS g (a + b) = sumS g a + sumS (fun s => g (a + s)) b
  | 0 => by rw [Nat.add_zero, sumS, Int64.add_zero]
  | b + 1 => by rw [← Nat.add_assoc, sumS, sumS_add g a b, sumS, Int64.add_assoc]
theorem sumS_congr {g g' : Nat → Int64} : ∀ {m : Nat}, (∀ s, s < m → g s = g' s) → sumS g m = sumS g' m
  | 0, _ => rfl
  | m + 1, h => by rw [sumS, sumS, sumS_congr (m := m) (fun s hs => h s (by omega)), h m (by omega)]
theorem sumS_mul (g : Nat → Int64) (c : Int64) : ∀ m, sumS (fun s => g s * c) m = sumS g m * c
  | 0 => (Int64.zero_mul).symm
  | m + 1 => by rw [sumS, sumS, sumS_mul g c m, Int64.add_mul]
theorem sumS_zero : ∀ m, sumS (fun _ => 0) m = 0
  | 0 => rfl
  | m + 1 => by rw [sumS, sumS_zero m, Int64.add_zero]
/-- subsets against products -/
theorem R_eq (t r : Nat → Int64) : ∀ n k, sumS (fun s => if Bc n s = k then Pr t r n s else 0) (2 ^ n) = Wy t r n k
  | 0, k => by
    show sumS (fun s => if Bc 0 s = k then Pr t r 0 s else 0) 1 = _
    rw [sumS, sumS, Wy, Int64.zero_add]
    show (if 0 = k then (1 : Int64) else 0) = _
    by_cases c : k = 0
    · rw [if_pos c, if_pos c.symm]
    · rw [if_neg c, if_neg (fun e => c e.symm)]
  | n + 1, k => by
    rw [show 2 ^ (n + 1) = 2 ^ n + 2 ^ n by rw [Nat.pow_succ]; omega, sumS_add, Wy]
    have e1 : sumS (fun s => if Bc (n + 1) s = k then Pr t r (n + 1) s else 0) (2 ^ n) = Wy t r n k * r n := by
      rw [← R_eq t r n k, ← sumS_mul]
      refine sumS_congr (fun s hs => ?_)
      rw [Bc, Pr, (bit_top hs).2, Nat.add_zero, if_neg (show ¬ 0 = 1 by decide)]
      by_cases c : Bc n s = k
      · rw [if_pos c, if_pos c]
      · rw [if_neg c, if_neg c, Int64.zero_mul]
    have e2 : sumS (fun s => if Bc (n + 1) (2 ^ n + s) = k then Pr t r (n + 1) (2 ^ n + s) else 0) (2 ^ n) = (if k = 0 then 0 else Wy t r n (k - 1) * t n) := by
      by_cases ck : k = 0
      · rw [if_pos ck]
        refine (sumS_congr (g' := fun _ => 0) (fun s hs => ?_)).trans (sumS_zero _)
        rw [Bc, (bit_top hs).1, if_neg (by omega)]
      · rw [if_neg ck, ← R_eq t r n (k - 1), ← sumS_mul]
        refine sumS_congr (fun s hs => ?_)
        rw [Bc, Pr, (bit_top hs).1, if_pos rfl, Bc_hi n s n (Nat.le_refl _), Pr_hi t r n s n (Nat.le_refl _)]
        by_cases c : Bc n s = k - 1
        · rw [if_pos c, if_pos (by omega)]
        · rw [if_neg c, if_neg (by omega), Int64.zero_mul]
    rw [e1, e2]
theorem Bc_8 {n s : Nat} (hn : n ≤ 8) (hs : s < 2 ^ n) : Bc 8 s = Bc n s := by
  have step : ∀ m, n ≤ m → Bc m s = Bc n s := by
    intro m hm
    induction m with
    | zero => rw [show n = 0 by omega]
    | succ m ih =>
      by_cases c : n = m + 1
      · rw [c]
      · rw [Bc, ih (by omega), (bit_top (Nat.lt_of_lt_of_le hs (Nat.pow_le_pow_right (by omega) (by omega)))).2, Nat.add_zero]
  exact step 8 hn
theorem bitCount_eq : ∀ s, s < 256 → fJ_bitCount (nI s) = some (nI (Bc 8 s)) := by decide +kernel
theorem shl1_eq : ∀ n, n < 9 → (1 : Int32) <<< (nI n &&& 31) = nI (2 ^ n) := by decide +kernel
theorem shl2_eq : ∀ n, n < 9 → (1 : Int32) <<< (((2 : Int32) * nI n) &&& 31) = nI (2 ^ (2 * n)) := by decide +kernel
theorem smd_eq : ∀ n, n < 9 → ((((2 : Int32) * nI n) &&& 31).toBitVec.smod 32).toNat = 2 * n := by decide +kernel
theorem smd1_eq : ∀ n, n < 9 → ((nI n &&& 31).toBitVec.smod 32).toNat = n := by decide +kernel
theorem pow_le_256 : ∀ n, n < 9 → 2 ^ n ≤ 256 := by decide
theorem bit_eq {s i : Nat} (hs : s < 256) (hi : i < 9) : ((nI s >>> (nI i &&& 31)) &&& 1) = nI (s / 2 ^ i % 2) := by
  have l := Nat.div_le_self s (2 ^ i)
  rw [pk_shrN (by omega) _ i (smd1_eq i hi), pk_andN (by omega) 1 (by decide)]
/-- which kind the i-th of a group is -/
def kd (K i : Nat) : Nat := ((nI K >>> (((2 : Int32) * nI i) &&& 31)) &&& 3).toNatClampNeg
theorem kd_in (K i : Nat) : ¬ (((nI K >>> (((2 : Int32) * nI i) &&& 31)) &&& 3) < 0 ∨ 4 ≤ ((nI K >>> (((2 : Int32) * nI i) &&& 31)) &&& 3).toNatClampNeg) := pk_andIn _ 2 (by decide) (by omega)
def tK (ρ : SR) (K i : Nat) : Int64 := (gf ρ 28 (kd K i)).toInt64
def rK (ρ : SR) (K i : Nat) : Int64 := ((100 : Int32) - gf ρ 28 (kd K i)).toInt64
theorem prod_loop {ρ : SR} {n K s : Nat} (hn : n ≤ 8) (hs : s < 256) (l3 : Int32) (l4 : Int64) : ∀ (f i : Nat), i ≤ n → n - i < f → fR_waysOf_L32 ρ (nI n) (nI K) l3 l4 (nI s) f (Pr (tK ρ K) (rK ρ K) i s) (nI i) = some (Pr (tK ρ K) (rK ρ K) n s) := by
  intro f
  induction f with
  | zero => intro i _ q; omega
  | succ f ih =>
    intro i hi hf
    rw [fR_waysOf_L32]
    by_cases c : i = n
    · subst c
      rw [if_pos (nI_le (Nat.le_refl _) (by omega))]
    · have r := ih (i + 1) (by omega) (by omega)
      rw [Pr] at r
      rw [if_neg (nI_ge (show i < n by omega) (by omega)), if_neg (kd_in K i), bit_eq hs (by omega), nI_1]
      by_cases cb : s / 2 ^ i % 2 = 1
      · rw [cb, if_pos (show nI 1 = (1 : Int32) from rfl), bd_s]
        rw [if_pos cb] at r
        exact r
      · rw [if_neg (show ¬ nI (s / 2 ^ i % 2) = (1 : Int32) from fun e => cb ((nI_eq (b := 1) (by omega) (by omega)).mp e)), bd_s]
        rw [if_neg cb] at r
        exact r
theorem ways_loop {ρ : SR} {n K k : Nat} (hn : n ≤ 8) (hk : k ≤ 8) : ∀ (f s : Nat), s ≤ 2 ^ n → 2 ^ n - s < f → fR_waysOf_L6 ρ (nI n) (nI K) (nI k) f (sumS (fun s => if Bc n s = k then Pr (tK ρ K) (rK ρ K) n s else 0) s) (nI s) = some (Wy (tK ρ K) (rK ρ K) n k) := by
  have h256 := pow_le_256 n (by omega)
  intro f
  induction f with
  | zero => intro s _ q; omega
  | succ f ih =>
    intro s hs hf
    rw [fR_waysOf_L6, shl1_eq n (by omega)]
    by_cases c : s = 2 ^ n
    · subst c
      rw [if_pos (nI_le (Nat.le_refl _) (by omega)), R_eq]
    · have hlt : s < 2 ^ n := by omega
      have r := ih (s + 1) (by omega) (by omega)
      rw [sumS] at r
      have hB : Bc n s ≤ 8 := by
        rw [← Bc_8 hn hlt]
        have : ∀ m, Bc m s ≤ m := by
          intro m
          induction m with
          | zero => exact Nat.le_refl _
          | succ m ihm => rw [Bc]; omega
        exact this 8
      rw [if_neg (nI_ge hlt (by omega)), bitCount_eq s (by omega), bd_s, Bc_8 hn hlt, nI_1]
      by_cases cb : Bc n s = k
      · have p := prod_loop (ρ := ρ) (K := K) hn (s := s) (by omega) (nI k) (sumS (fun s => if Bc n s = k then Pr (tK ρ K) (rK ρ K) n s else 0) s) 1000 0 (by omega) (by omega)
        rw [show Pr (tK ρ K) (rK ρ K) 0 s = 1 from rfl, nI_0] at p
        rw [if_pos (by rw [cb]), p, bd_s, bd_s]
        rw [if_pos cb] at r
        exact r
      · rw [if_neg (fun e => cb ((nI_eq (by omega) (by omega)).mp e)), bd_s]
        rw [if_neg cb, Int64.add_zero] at r
        exact r
theorem waysOf_eq {ρ : SR} {n K k : Nat} (hn : n ≤ 8) (hk : k ≤ 8) : fR_waysOf ρ (nI n) (nI K) (nI k) = some (Wy (tK ρ K) (rK ρ K) n k) := by
  unfold fR_waysOf
  have h256 := pow_le_256 n (by omega)
  have := ways_loop (ρ := ρ) (K := K) hn hk 1000 0 (Nat.zero_le _) (by omega)
  rw [show sumS (fun s => if Bc n s = k then Pr (tK ρ K) (rK ρ K) n s else 0) 0 = 0 from rfl, nI_0] at this
  rw [this]
  rfl
/-! the class's row of ways -/
theorem yg_yG (σ : SC) (r : Nat → Int64) (i : Nat) (v : Int64) : yg (yG σ r) i v = yG σ (vp_updL r i v) := rfl
theorem xg_yG (σ : SC) (r : Nat → Int64) : xg (yG σ r) = r := rfl
theorem fill17_loop (σ : SC) (l : Int64) : ∀ (f i : Nat) (r : Nat → Int64), i ≤ 9 → 9 - i < f → (∀ j, j < i → r j = l) → ∃ q, fC_fill17_L6 l 9 f (nI i) (yG σ r) = some (yG σ q) ∧ ∀ j, j < 9 → q j = l := by
  intro f
  induction f with
  | zero => intro i r _ q; omega
  | succ f ih =>
    intro i r hi hf hr
    rw [fC_fill17_L6]
    by_cases c : i = 9
    · subst c
      rw [if_pos (by decide)]
      exact ⟨r, rfl, hr⟩
    · rw [if_neg (show ¬ (9 : Int32) ≤ nI i from nI_ge (b := 9) (by omega) (by omega)), if_neg (ix_ok (n := 9) (by omega) (by omega)), nI_clamp (by omega), nI_1, yg_yG]
      refine ih (i + 1) _ (by omega) (by omega) (fun j hj => ?_)
      by_cases e : j = i
      · subst e; exact pk_uLs
      · rw [pk_uLn e]; exact hr j (by omega)
theorem addOne_loop (σ : SC) (t r : Int32) (o : Nat → Int64) : ∀ (f k : Nat) (q : Nat → Int64), k ≤ 8 → k < f → (∀ j, j ≤ k → q j = o j) → (∀ j, k < j → j ≤ 8 → q j = o j * r.toInt64 + o (j - 1) * t.toInt64) → ∃ q', fC_Ch_addOne_L8 t r f (nI k) (yG σ q) = some (yG σ q') ∧ q' 0 = o 0 ∧ ∀ j, 0 < j → j ≤ 8 → q' j = o j * r.toInt64 + o (j - 1) * t.toInt64 := by
  intro f
  induction f with
  | zero => intro k q _ h; omega
  | succ f ih =>
    intro k q hk hf h1 h2
    rw [fC_Ch_addOne_L8]
    rcases k with _ | k
    · rw [if_pos (by decide)]
      exact ⟨q, rfl, h1 0 (Nat.le_refl _), h2⟩
    · rw [if_neg (nI_nle (by omega) (by omega)), if_neg (ix_ok (n := 9) (by omega) (by omega)), nI_pred, if_neg (ix_ok (n := 9) (by omega) (by omega)), pk_m1, nI_clamp (by omega), nI_clamp (by omega), yg_yG, xg_yG]
      refine ih k _ (by omega) (by omega) (fun j hj => ?_) (fun j hj hj8 => ?_)
      · rw [pk_uLn (by omega)]; exact h1 j (by omega)
      · by_cases e : j = k + 1
        · subst e
          rw [pk_uLs, h1 (k + 1) (Nat.le_refl _), h1 k (by omega)]
          rfl
        · rw [pk_uLn e]; exact h2 j (by omega) hj8
theorem count_loop2 {σ : SC} {ρ : SR} (h : RCh σ ρ) {n K : Nat} (hn : n ≤ 8) : ∀ (f i : Nat) (q : Nat → Int64), i ≤ n → n - i < f → (∀ k, k ≤ 8 → q k = Wy (tK ρ K) (rK ρ K) i k) → ∃ q', fC_Ch_countWays_L17 (nI n) (nI K) f (nI i) (yG σ q) = some (yG σ q') ∧ ∀ k, k ≤ 8 → q' k = Wy (tK ρ K) (rK ρ K) n k := by
  intro f
  induction f with
  | zero => intro i q _ h; omega
  | succ f ih =>
    intro i q hi hf hq
    rw [fC_Ch_countWays_L17]
    by_cases c : i = n
    · subst c
      rw [if_pos (nI_le (Nat.le_refl _) (by omega))]
      exact ⟨q, rfl, hq⟩
    · rw [if_neg (nI_ge (show i < n by omega) (by omega)), if_neg (show ¬ (8 : Int32) ≤ nI i from nI_ge (b := 8) (by omega) (by omega)), if_neg (kd_in K i), nI_1]
      have e6 : xf (yG σ q) 6 ((nI K >>> (((2 : Int32) * nI i) &&& 31)) &&& 3).toNatClampNeg = gf ρ 28 (kd K i) := by
        show xf σ 6 (kd K i) = _
        rw [h.1]
      rw [e6]
      unfold fC_Ch_addOne
      obtain ⟨q1, a1, a2, a3⟩ := addOne_loop σ (gf ρ 28 (kd K i)) (100 - gf ρ 28 (kd K i)) q 1000 8 q (Nat.le_refl _) (by omega) (fun _ _ => rfl) (fun j hj hj8 => by omega)
      rw [show nI 8 = (8 : Int32) from rfl] at a1
      rw [a1, bd_s, if_neg (by decide), bd_s]
      refine ih (i + 1) _ (by omega) (by omega) (fun k hk => ?_)
      show vp_updL q1 0 (q1 0 * (100 - gf ρ 28 (kd K i)).toInt64) k = _
      rw [Wy]
      by_cases ck : k = 0
      · subst ck
        rw [pk_uLs, a2, hq 0 (by omega), if_pos rfl, Int64.add_zero]
        rfl
      · rw [pk_uLn ck, a3 k (by omega) hk, if_neg ck, hq k hk, hq (k - 1) (by omega)]
        rfl
theorem countWays_eq {σ : SC} {ρ : SR} (h : RCh σ ρ) {n K : Nat} (hn : n ≤ 8) : ∃ q, fC_Ch_countWays σ (nI n) (nI K) = some (yG σ q) ∧ ∀ k, k ≤ 8 → q k = Wy (tK ρ K) (rK ρ K) n k := by
  unfold fC_Ch_countWays fC_fill17
  obtain ⟨r, e1, hr⟩ := fill17_loop σ 0 1000 0 (xg σ) (by omega) (by omega) (fun j hj => by omega)
  rw [nI_0, show yG σ (xg σ) = σ from rfl] at e1
  rw [e1, bd_s, bd_s, if_neg (by decide)]
  obtain ⟨q, e2, hq⟩ := count_loop2 (σ := σ) h (K := K) hn 1000 0 (vp_updL r 0 1) (by omega) (by omega) (fun k hk => by
    rw [Wy]
    by_cases ck : k = 0
    · subst ck; rw [pk_uLs, if_pos rfl]
    · rw [pk_uLn ck, if_neg ck, hr k (by omega)])
  rw [nI_0] at e2
  refine ⟨q, ?_, hq⟩
  show Option.bind (fC_Ch_countWays_L17 (nI n) (nI K) 1000 0 (yG σ (vp_updL r 0 1))) _ = _
  rw [e2]
  rfl
theorem group_eq (a b : Int32) : (fC_Ch_isGroup a b = some 0 ∧ fR_areKinds a b = some 0) ∨ ∃ n K : Nat, n ≤ 8 ∧ a = nI n ∧ b = nI K ∧ fC_Ch_isGroup a b = some 1 ∧ fR_areKinds a b = some 1 := by
  unfold fC_Ch_isGroup fR_areKinds
  rw [fC_isWithin_eq, fR_in_eq, bd_s, bd_s]
  by_cases c : (1 : Int32) ≤ a ∧ a ≤ 8
  · obtain ⟨n, hn, rfl⟩ := wi_nat (n := 8) (hi := 8) (by decide) ⟨by have := c.1; rw [iLe] at this ⊢; rw [tI_1] at this; rw [tI_0]; omega, c.2⟩
    rw [wi_t c, if_neg one_ne, if_neg one_ne]
    by_cases c1 : b < 0
    · rw [if_pos c1, if_pos c1]; exact Or.inl ⟨rfl, rfl⟩
    · obtain ⟨K, hK, rfl⟩ := nI_of c1
      have l := Nat.div_le_self K (2 ^ (2 * n))
      have p0 := Nat.two_pow_pos (2 * n)
      have p16 : 2 ^ (2 * n) ≤ 2 ^ 16 := Nat.pow_le_pow_right (by omega) (by omega)
      rw [if_neg c1, if_neg c1, pk_shrN hK _ (2 * n) (smd_eq n (by omega)), shl2_eq n (by omega)]
      by_cases c2 : K < 2 ^ (2 * n)
      · rw [Nat.div_eq_of_lt c2, if_pos nI_0, if_neg (nI_ge c2 (by omega))]
        exact Or.inr ⟨n, K, hn, rfl, rfl, rfl, rfl⟩
      · have d1 : 0 < K / 2 ^ (2 * n) := Nat.div_pos (by omega) p0
        rw [if_neg (nI_ne0 d1 (by omega)), if_pos (nI_le (by omega) (by omega))]
        exact Or.inl ⟨rfl, rfl⟩
  · rw [wi_f c, if_pos rfl, if_pos rfl]; exact Or.inl ⟨rfl, rfl⟩
theorem Rel.ways {σ : SC} {ρ : SR} (h : Rel σ ρ) (q : Nat → Int64) : Rel (yG σ q) ρ := ⟨h.1, h.2.1, h.2.2.1, h.2.2.2.1, h.2.2.2.2.1, h.2.2.2.2.2.1, h.2.2.2.2.2.2.1, h.2.2.2.2.2.2.2.1, h.2.2.2.2.2.2.2.2⟩
theorem eq_ways {σ : SC} {ρ : SR} (h0 : Rel σ ρ) (a b c : Int32) : ∃ r σ' ρ', fC_B_ways σ a b c = some (r, σ') ∧ fR_ways ρ a b c = some (r, ρ') ∧ Rel σ' ρ' := by
  have h := h0.thrown 0
  unfold fC_B_ways fR_ways
  generalize pz ρ 31 0 = ρ1 at *
  rcases group_eq a b with ⟨e1, e2⟩ | ⟨n, K, hn, rfl, rfl, e1, e2⟩
  · rw [e1, e2, bd_s, bd_s, if_pos rfl, if_pos rfl]
    exact ⟨_, _, _, rfl, rfl, h⟩
  · rw [e1, e2, bd_s, bd_s, if_neg one_ne, if_neg one_ne, fC_isWithin_eq, fR_in_eq, bd_s, bd_s]
    by_cases c2 : (0 : Int32) ≤ c ∧ c ≤ nI n
    · obtain ⟨k, hk, rfl⟩ := wi_nat (n := n) (nI_toInt (by omega)) c2
      obtain ⟨q, e3, hq⟩ := countWays_eq (σ := σ) h.2.2.2.2.2.2.2.1 (K := K) hn
      unfold fC_Ch_waysOf
      rw [wi_t c2, if_neg one_ne, if_neg one_ne, e3, bd_s, waysOf_eq hn (by omega), bd_s, fC_isWithin_eq, bd_s, wi_t (show (0 : Int32) ≤ nI k ∧ nI k ≤ 8 from ⟨nI_pos' (by omega), nI_le (b := 8) (by omega) (by omega)⟩), if_neg one_ne, if_neg (ix_ok (n := 9) (by omega) (by omega)), nI_clamp (by omega), bd_s, xg_yG, hq k (by omega)]
      exact ⟨_, _, _, rfl, rfl, h.ways q⟩
    · rw [wi_f c2, if_pos rfl, if_pos rfl]
      exact ⟨_, _, _, rfl, rfl, h⟩
theorem cost_loop {σ : SC} {ρ : SR} {n K : Nat} (hn : n ≤ 8) {q : Nat → Int64} (hq : ∀ k, k ≤ 8 → q k = Wy (tK ρ K) (rK ρ K) n k) (c o u l5 : Int32) (l6 : Int64) : ∀ (f k : Nat) (x : Int64), k ≤ n + 1 → n + 1 - k < f → ∃ y, fC_Ch_costOf_L6 (yG σ q) c (nI n) o u f x (nI k) = some y ∧ fR_print_L57 ρ (nI n) (nI K) o u l5 l6 c f x (nI k) = some y := by
  intro f
  induction f with
  | zero => intro k x _ q; omega
  | succ f ih =>
    intro k x hk hf
    rw [fC_Ch_costOf_L6, fR_print_L57]
    by_cases e : k = n + 1
    · rw [e, if_pos (nI_lt (by omega) (by omega)), if_pos (nI_lt (by omega) (by omega))]
      exact ⟨x, rfl, rfl⟩
    · rw [if_neg (nI_nlt (show k ≤ n by omega) (by omega)), if_neg (nI_nlt (show k ≤ n by omega) (by omega)), if_neg (show ¬ (8 : Int32) < nI k from nI_nlt (a := 8) (b := k) (by omega) (by omega)), waysOf_eq hn (by omega), bd_s, nI_1]
      by_cases c1 : c ≤ nI k
      · rw [if_pos c1, if_pos c1, bd_s, bd_s, if_neg (ix_ok (n := 9) (by omega) (by omega)), nI_clamp (by omega), xg_yG, hq k (by omega), Int32.mul_comm u]
        exact ih (k + 1) _ (by omega) (by omega)
      · rw [if_neg c1, if_neg c1, bd_s, bd_s, if_neg (ix_ok (n := 9) (by omega) (by omega)), nI_clamp (by omega), xg_yG, hq k (by omega), Int32.mul_comm o]
        exact ih (k + 1) _ (by omega) (by omega)
theorem cost_eq {σ : SC} {ρ : SR} {n K : Nat} (hn : n ≤ 8) {q : Nat → Int64} (hq : ∀ k, k ≤ 8 → q k = Wy (tK ρ K) (rK ρ K) n k) (c o u : Int32) : ∃ y, fC_Ch_costOf (yG σ q) c (nI n) o u = some y ∧ ∀ l5 l6, fR_print_L57 ρ (nI n) (nI K) o u l5 l6 c 1000 0 0 = some y := by
  obtain ⟨y, e1, -⟩ := cost_loop (σ := σ) hn hq c o u 0 0 1000 0 0 (by omega) (by omega)
  rw [nI_0] at e1
  refine ⟨y, ?_, fun l5 l6 => ?_⟩
  · unfold fC_Ch_costOf; rw [e1]; rfl
  · obtain ⟨y', e3, e4⟩ := cost_loop (σ := σ) hn hq c o u l5 l6 1000 0 0 (by omega) (by omega)
    rw [nI_0] at e3 e4
    rw [e1] at e3
    rw [e4, ← Option.some.inj e3]
theorem print_loop {σ : SC} {ρ : SR} {n K : Nat} (hn : n ≤ 8) {q : Nat → Int64} (hq : ∀ k, k ≤ 8 → q k = Wy (tK ρ K) (rK ρ K) n k) (o u : Int32) : ∀ (f c : Nat) (b : Int32) (x : Int64), 0 < c → c ≤ n + 1 → n + 1 - c < f → ∃ y, fC_Ch_cheapestPrint_L16 (yG σ q) (nI n) o u f b x (nI c) = some y ∧ fR_print_L45 ρ (nI n) (nI K) o u f b x (nI c) = some y := by
  intro f
  induction f with
  | zero => intro c b x _ _ q; omega
  | succ f ih =>
    intro c b x h0 hc hf
    rw [fC_Ch_cheapestPrint_L16, fR_print_L45]
    by_cases e : c = n + 1
    · rw [e, if_pos (nI_lt (by omega) (by omega)), if_pos (nI_lt (by omega) (by omega))]
      exact ⟨b, rfl, rfl⟩
    · obtain ⟨y, e1, e2⟩ := cost_eq (σ := σ) hn hq (nI c) o u
      rw [if_neg (nI_nlt (show c ≤ n by omega) (by omega)), if_neg (nI_nlt (show c ≤ n by omega) (by omega)), if_neg (show ¬ (8 : Int32) < nI c from nI_nlt (a := 8) (b := c) (by omega) (by omega)), e1, bd_s, e2, bd_s, if_neg (nI_nle h0 (by omega)), nI_1]
      by_cases c1 : 0 ≤ lg_cmp y x
      · rw [if_pos c1, if_neg (iNlt.mpr c1), bd_s, bd_s]
        exact ih (c + 1) _ _ (by omega) (by omega) (by omega)
      · rw [if_neg c1, if_pos (iNle.mp c1), bd_s, bd_s]
        exact ih (c + 1) _ _ (by omega) (by omega) (by omega)
theorem isRate_eq (v : Int32) : fC_Ch_isRate v = some (wi v 1 99) := by unfold fC_Ch_isRate; rw [fC_isWithin_eq]; exact if_pos (wi_01 _ _ _)
theorem eq_print {σ : SC} {ρ : SR} (h0 : Rel σ ρ) (a b o u : Int32) : ∃ r σ' ρ', fC_B_print σ a b o u = some (r, σ') ∧ fR_print ρ a b o u = some (r, ρ') ∧ Rel σ' ρ' := by
  have h := h0.thrown 0
  unfold fC_B_print fR_print
  generalize pz ρ 31 0 = ρ1 at *
  rcases group_eq a b with ⟨e1, e2⟩ | ⟨n, K, hn, rfl, rfl, e1, e2⟩
  · rw [e1, e2, bd_s, bd_s, if_pos rfl, if_pos rfl]
    exact ⟨_, _, _, rfl, rfl, h⟩
  · rw [e1, e2, bd_s, bd_s, if_neg one_ne, if_neg one_ne, isRate_eq, fR_in_eq, bd_s, bd_s]
    by_cases c1 : (1 : Int32) ≤ o ∧ o ≤ 99
    · rw [wi_t c1, if_neg one_ne, if_neg one_ne, isRate_eq, fR_in_eq, bd_s, bd_s]
      by_cases c2 : (1 : Int32) ≤ u ∧ u ≤ 99
      · rw [wi_t c2, if_neg one_ne, if_neg one_ne]
        obtain ⟨q, e3, hq⟩ := countWays_eq (σ := σ) h.2.2.2.2.2.2.2.1 (K := K) hn
        obtain ⟨y, f1, f2⟩ := cost_eq (σ := σ) hn hq 0 o u
        obtain ⟨z, g1, g2⟩ := print_loop (σ := σ) hn hq o u 999 1 0 y (by omega) (by omega) (by omega)
        obtain ⟨z', g3, g4⟩ := print_loop (σ := σ) hn hq o u 1000 1 0 y (by omega) (by omega) (by omega)
        have gz' : z = z' := by
          have mono : ∀ (f c : Nat) (b : Int32) (x : Int64) (w : Int32), fC_Ch_cheapestPrint_L16 (yG σ q) (nI n) o u f b x (nI c) = some w → fC_Ch_cheapestPrint_L16 (yG σ q) (nI n) o u (f + 1) b x (nI c) = some w := by
            intro f
            induction f with
            | zero => intro c b x w e; cases e
            | succ f ih =>
              intro c b x w e
              rw [fC_Ch_cheapestPrint_L16] at e
              rw [fC_Ch_cheapestPrint_L16]
              by_cases d1 : nI n < nI c
              · rw [if_pos d1] at e ⊢; exact e
              · rw [if_neg d1] at e ⊢
                by_cases d2 : (8 : Int32) < nI c
                · rw [if_pos d2] at e ⊢; exact e
                · rw [if_neg d2] at e ⊢
                  cases d3 : fC_Ch_costOf (yG σ q) (nI c) (nI n) o u with
                  | none => rw [d3] at e; cases e
                  | some v =>
                    rw [d3, bd_s] at e
                    rw [bd_s]
                    by_cases d4 : 0 ≤ lg_cmp v x
                    · rw [if_pos d4, bd_s, nI_1] at e
                      rw [if_pos d4, bd_s, nI_1]
                      exact ih _ _ _ _ e
                    · rw [if_neg d4, bd_s, nI_1] at e
                      rw [if_neg d4, bd_s, nI_1]
                      exact ih _ _ _ _ e
          have := mono 999 1 0 y z g1
          rw [g3] at this
          exact (Option.some.inj this).symm
        subst gz'
        unfold fC_Ch_cheapestPrint
        rw [e3, bd_s, f1, bd_s]
        rw [show nI 1 = (1 : Int32) from rfl] at g3 g2
        rw [g3, bd_s, fR_print_L45, if_neg (show ¬ nI n < 0 from nI_pos (by omega)), f2, bd_s, bd_s, if_pos (by decide), bd_s]
        show ∃ r σ' ρ', _ ∧ Option.bind (fR_print_L45 ρ1 (nI n) (nI K) o u 999 0 y (0 + 1)) _ = _ ∧ _
        rw [show (0 + 1 : Int32) = 1 by decide, g2]
        exact ⟨_, _, _, rfl, rfl, h.ways q⟩
      · rw [wi_f c2, if_pos rfl, if_pos rfl]
        exact ⟨_, _, _, rfl, rfl, h⟩
    · rw [wi_f c1, if_pos rfl, if_pos rfl]
      exact ⟨_, _, _, rfl, rfl, h⟩
