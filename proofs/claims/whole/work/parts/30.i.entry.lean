/-! the law's entry: known classes, texts, statics -/
theorem lf_known {s : State} {args : Array Value} (hts : ∀ w ∈ wsL, w.before args s = true) : ∀ q ∈ vwCl, ∃ (cC : ClassId) (iS : Nat → Nat), u_Kn s q.1 q.2.1 q.2.2 cC iS :=
  List.forall_mem_cons.mpr ⟨u_known hts inJx4a65c (hts _ m_71), List.forall_mem_cons.mpr ⟨u_known hts inX0 (hts _ m_30), List.forall_mem_cons.mpr ⟨u_known hts inX1 (hts _ m_80), List.forall_mem_cons.mpr ⟨u_known hts inX2 (hts _ m_26), List.forall_mem_cons.mpr ⟨u_known hts inX3 (hts _ m_547), List.forall_mem_cons.mpr ⟨u_known hts inX4 (hts _ m_34), List.forall_mem_cons.mpr ⟨u_known hts inX5 (hts _ m_76), List.forall_mem_cons.mpr ⟨u_known hts inX6 (hts _ m_511), List.forall_mem_cons.mpr ⟨u_known hts inX7 (hts _ m_18), List.forall_mem_cons.mpr ⟨u_known hts inX8 (hts _ m_14), List.forall_mem_cons.mpr ⟨u_known hts inX9 (hts _ m_22), List.forall_mem_cons.mpr ⟨u_known hts inX10 (hts _ m_1), List.forall_mem_cons.mpr ⟨u_known hts inX11 (hts _ m_4), fun _ h => absurd h List.not_mem_nil⟩⟩⟩⟩⟩⟩⟩⟩⟩⟩⟩⟩⟩
theorem lf_D {s : State} {args : Array Value} (hts : ∀ w ∈ wsL, w.before args s = true) : ∃ D : va_G, va_K D vwCl [] s := by
  have h : ∀ c : Nat, ∃ g : ClassId × (Nat → Nat), ∀ q : vw_C, vwCl[c]? = some q → u_Kn s q.1 q.2.1 q.2.2 g.1 g.2 := by
    intro c
    cases hq : vwCl[c]? with
    | none =>
      obtain ⟨a, b, -⟩ := lf_known hts _ List.mem_cons_self
      exact ⟨(a, b), fun q h => by cases h⟩
    | some q =>
      obtain ⟨a, b, h⟩ := lf_known hts q (List.mem_of_getElem? hq)
      exact ⟨(a, b), fun q' h' => (Option.some.inj h') ▸ h⟩
  obtain ⟨g, hg⟩ := Classical.axiomOfChoice h
  exact ⟨(fun c => (g c).1, fun c => (g c).2), fun c q hq => hg c q hq, fun k q hk => by simp at hk⟩
theorem lf_AO {s : State} {D : va_G} {C : String} (hK : va_K D vwCl [] s) (h : va_AO C s) : ∃ cA : ClassId, va_K D vwCl [(cA, .object C)] s := by
  obtain ⟨comp, cA, kA, f4, -, f2, f3, f1⟩ := Cond.arrayOver_spec h
  refine ⟨cA, hK.1, fun k x hx => ?_⟩
  have hz : k < 1 := (List.getElem?_eq_some_iff.mp hx).1
  rw [show k = 0 by omega] at hx
  cases hx
  exact ⟨fun N z => ⟨(fun k h => by cases h), kA, f2, comp, f3⟩, kA, comp, f2, f3, f4, f1⟩
def ktm (i : Nat) : Term := .string (ktx.getD i ("", 0, "")).1 (ktx.getD i ("", 0, "")).2.1
def kfl : List Cond := flatC (Cond.and given_1 narrow_1)
def twa : Term := .static "BookClub$RuleBook" "WITHOUT_ANY" "[I"
def tee : Term := .static "java/util/ArrayList" "DEFAULTCAPACITY_EMPTY_ELEMENTDATA" "[Ljava/lang/Object;"
theorem kf_ex : ∀ i, i < 14 → Cond.exactly (ktm i) "java/lang/String" ∈ kfl := by decide +kernel
theorem kf_co : ∀ i, i < 9 → Cond.eq (.field (ktm i) "java/lang/String" "coder" "B") (.int 0) ∈ kfl := by decide +kernel
theorem kf_ar : ∀ i, i < 9 → Cond.arrayOf (.field (ktm i) "java/lang/String" "value" "[B") .byte ∈ kfl := by decide +kernel
theorem kf_le : ∀ i, i < 9 → Cond.eq (.length (.field (ktm i) "java/lang/String" "value" "[B")) (.int (Int32.ofNat (klen.getD i 0))) ∈ kfl := by decide +kernel
theorem kf_el : ∀ i, i < 9 → ∀ j, j < klen.getD i 0 → Cond.eq (.elem (.field (ktm i) "java/lang/String" "value" "[B") (.int (Int32.ofNat j))) (.int ((kbyt.getD i []).getD j 0)) ∈ kfl := by decide +kernel
theorem kf_ne : ∀ i, i < 9 → ∀ j, j < 9 → i ≠ j → Cond.not (Cond.eq (ktm i) (ktm j)) ∈ kfl ∨ Cond.not (Cond.eq (ktm j) (ktm i)) ∈ kfl := by decide +kernel
theorem kf_wa : ∀ j, j < 8 → Cond.eq (.elem twa (.int (Int32.ofNat j))) (.int (kwa.getD j 0)) ∈ kfl := by decide +kernel
theorem kf_sr : ∀ q ∈ ktx, Cond.stringRef q.1 q.2.1 q.2.2 ∈ lw_tbl := by decide +kernel
def kwl : List Cond := [.laysStatic "java/lang/String" "COMPACT_STRINGS" "Z", .initialized "java/lang/String", .laysStatic "BookClub$RuleBook" "WITHOUT_ANY" "[I", .initialized "BookClub$RuleBook", .laysStatic "java/util/ArrayList" "DEFAULTCAPACITY_EMPTY_ELEMENTDATA" "[Ljava/lang/Object;", .initialized "java/util/ArrayList", .arrayOver (.object "java/lang/Object"), .laysStatic "jdk/internal/util/Preconditions" "SIOOBE_FORMATTER" "Ljava/util/function/BiFunction;", .initialized "jdk/internal/util/Preconditions", .laysStatic "java/lang/Throwable" "UNASSIGNED_STACK" "[Ljava/lang/StackTraceElement;", .initialized "java/lang/Throwable", .laysStatic "java/lang/Throwable" "SUPPRESSED_SENTINEL" "Ljava/util/List;"]
theorem kwl_tbl : ∀ w ∈ kwl, w ∈ lw_tbl := by decide +kernel
def kgl : List Cond := [.eq (.static "java/lang/String" "COMPACT_STRINGS" "Z") (.int 1), .arrayOf twa .int, .eq (.length twa) (.int (Int32.ofNat 8)), .arrayOf tee (.object "java/lang/Object"), .eq (.length tee) (.int (Int32.ofNat 0)), .exactly tee "[Ljava/lang/Object;", .isRef (.mirror "[Ljava/lang/Object;"), .isRef (.static "jdk/internal/util/Preconditions" "SIOOBE_FORMATTER" "Ljava/util/function/BiFunction;"), .isRef (.static "java/lang/Throwable" "UNASSIGNED_STACK" "[Ljava/lang/StackTraceElement;"), .isRef (.static "java/lang/Throwable" "SUPPRESSED_SENTINEL" "Ljava/util/List;")]
theorem kgl_tbl : ∀ w ∈ kgl, w ∈ kfl := by decide +kernel
theorem kk_mk (adK adV tx : Nat → Nat) (w e0 mi : Nat) : ∃ kk : Nat → Nat, (∀ i, i < 9 → kk i = adK i) ∧ (∀ i, i < 9 → kk (20 + i) = adV i) ∧ (∀ i, 9 ≤ i → i < 14 → kk i = tx i) ∧ kk 40 = w ∧ kk 41 = e0 ∧ kk 42 = mi := by
  refine ⟨fun n => if n < 9 then adK n else if n < 14 then tx n else if n < 40 then adV (n - 20) else if n = 40 then w else if n = 41 then e0 else mi, fun i hi => if_pos hi, fun i hi => ?_, fun i h1 h2 => ?_, rfl, rfl, rfl⟩
  · show (if 20 + i < 9 then _ else if 20 + i < 14 then _ else if 20 + i < 40 then adV (20 + i - 20) else _) = adV i
    rw [if_neg (by omega), if_neg (by omega), if_pos (by omega), Nat.add_sub_cancel_left]
  · show (if i < 9 then _ else if i < 14 then tx i else _) = tx i
    rw [if_neg (by omega), if_pos h2]
theorem l0_A {s : State} : ∀ a : Nat, a < s.heap.size → ¬ L0 s a := fun _ h h' => Nat.not_lt.mpr h' h
theorem lf_KC {s : State} {args : Array Value} (hw : ∀ w ∈ lw_tbl, w.before args s = true) (hg : (Cond.and given_1 narrow_1).before args s = true) : ∃ kk : Nat → Nat, KC (L0 s) kk s := by
  have F : ∀ w ∈ kfl, w.before args s = true := flat_of_before _ hg
  have W : ∀ w ∈ kwl, w.before args s = true := fun w h => hw w (kwl_tbl w h)
  have G : ∀ w ∈ kgl, w.before args s = true := fun w h => F w (kgl_tbl w h)
  obtain ⟨adK, adV, hS, hK⟩ := vk_Sof (args := args) (s := s) (N := 9) (tm := ktm) (len := klen) (byt := kbyt) (A := L0 s) (by decide) (fun i hi => F _ (kf_ex i (by omega))) (fun i hi => F _ (kf_co i hi)) (fun i hi => F _ (kf_ar i hi)) (fun i hi => F _ (kf_le i hi)) (fun i hi j hj => F _ (kf_el i hi j hj)) (fun i j hi hj hij => (kf_ne i hi j hj hij).imp (F _) (F _)) l0_A
  have hx : ∀ i : Nat, ∃ a : Nat, i < 14 → (ktm i).eval args s none [] s = some (.ref a) := by
    intro i
    by_cases hi : i < 14
    · obtain ⟨a, c, cA, kA, q1, -⟩ := Cond.exactly_spec (args := args) (first := s) (o := none) (s := s) (idx := []) (t := ktm i) (cls := "java/lang/String") (F _ (kf_ex i hi))
      exact ⟨a, fun _ => q1⟩
    · exact ⟨0, fun h => absurd h hi⟩
  obtain ⟨tx, htx⟩ := Classical.axiomOfChoice hx
  obtain ⟨w, hw1, hw2⟩ := va_Tof (args := args) (s := s) (tm := twa) (ty := .int) (N := 8) (f := fun j => .int (kwa.getD j 0)) (A := L0 s) (by decide) (G _ (List.mem_of_getElem? (i := 1) rfl)) (va_eqt (G _ (List.mem_of_getElem? (i := 2) rfl))) (fun j hj => va_eqt (F _ (kf_wa j hj))) l0_A
  obtain ⟨e0, he1, he2⟩ := va_Tof (args := args) (s := s) (tm := tee) (ty := .object "java/lang/Object") (N := 0) (f := fun _ => .null) (A := L0 s) (by decide) (G _ (List.mem_of_getElem? (i := 3) rfl)) (va_eqt (G _ (List.mem_of_getElem? (i := 4) rfl))) (fun j hj => absurd hj (Nat.not_lt_zero j)) l0_A
  obtain ⟨mi, hmi⟩ := va_Mi.of (C := "[Ljava/lang/Object;") (G _ (List.mem_of_getElem? (i := 6) rfl))
  obtain ⟨kk, k1, k2, k3, k4, k5, k6⟩ := kk_mk adK adV tx w e0 mi
  refine ⟨kk, ⟨fun i hi => ?_, fun i j hi hj e => ?_⟩, fun i q hi => ?_, va_Zof (W _ (List.mem_of_getElem? (i := 0) rfl)) (W _ (List.mem_of_getElem? (i := 1) rfl)) (va_eqt (G _ (List.mem_of_getElem? (i := 0) rfl))) l0_A, ?_, ?_, ?_, ?_, ?_, ?_, va_AO.of (W _ (List.mem_of_getElem? (i := 6) rfl)), va_Zqof (W _ (List.mem_of_getElem? (i := 7) rfl)) (W _ (List.mem_of_getElem? (i := 8) rfl)) (G _ (List.mem_of_getElem? (i := 7) rfl)) l0_A, va_Zqof (W _ (List.mem_of_getElem? (i := 9) rfl)) (W _ (List.mem_of_getElem? (i := 10) rfl)) (G _ (List.mem_of_getElem? (i := 8) rfl)) l0_A, va_Zqof (W _ (List.mem_of_getElem? (i := 11) rfl)) (W _ (List.mem_of_getElem? (i := 10) rfl)) (G _ (List.mem_of_getElem? (i := 9) rfl)) l0_A⟩
  · show va_O _ (kk i) _ _ _ ∧ va_OF _ _ _ _ (kk i) _ _ _ ∧ va_OF _ _ _ (.ref (kk (20 + i))) (kk i) _ _ _ ∧ va_T _ (kk (20 + i)) _ _ _ _ _
    rw [k1 i hi, k2 i hi]
    exact hS.1 i hi
  · have e : kk i = kk j := e
    rw [k1 i hi, k1 j hj] at e
    exact hS.2 i j hi hj e
  · have hlt : i < 14 := (List.getElem?_eq_some_iff.mp hi).1
    have hd : ktx.getD i ("", 0, "") = q := by rw [List.getD_eq_getElem?_getD, hi]; rfl
    have ht : (ktm i).eval args s none [] s = some (.ref (kk i)) := by
      by_cases h9 : i < 9
      · rw [k1 i h9]; exact hK i h9
      · rw [k3 i (by omega) hlt]; exact htx i hlt
    unfold ktm at ht
    rw [hd] at ht
    exact vk_R.of (hw _ (kf_sr q (List.mem_of_getElem? hi))) ht
  · rw [k4]; exact va_Zof (W _ (List.mem_of_getElem? (i := 2) rfl)) (W _ (List.mem_of_getElem? (i := 3) rfl)) hw1 l0_A
  · rw [k4]; exact hw2
  · rw [k5]; exact va_Zof (W _ (List.mem_of_getElem? (i := 4) rfl)) (W _ (List.mem_of_getElem? (i := 5) rfl)) he1 l0_A
  · rw [k5]; exact he2
  · rw [k5]; exact va_Oof (G _ (List.mem_of_getElem? (i := 5) rfl)) he1 l0_A
  · rw [k6]; exact hmi
theorem lf_NW {s : State} {args : Array Value} (hw : ∀ w ∈ lw_tbl, w.before args s = true) : NW s := fun w h => va_Nw.of (nk_tab (nwl_nk w h)) (hw w (nwl_tbl w h))
theorem lf_TL {s : State} {args : Array Value} (hw : ∀ w ∈ lw_tbl, w.before args s = true) (hg : (Cond.and given_1 narrow_1).before args s = true) : TL (L0 s) s s.heap := by
  have W : ∀ w ∈ kwl, w.before args s = true := fun w h => hw w (kwl_tbl w h)
  have G : ∀ w ∈ kgl, w.before args s = true := fun w h => flat_of_before _ hg w (kgl_tbl w h)
  exact ⟨(vx_Zqof (W _ (List.mem_of_getElem? (i := 9) rfl)) (W _ (List.mem_of_getElem? (i := 10) rfl)) (G _ (List.mem_of_getElem? (i := 8) rfl)) l0_A).2, (vx_Zqof (W _ (List.mem_of_getElem? (i := 11) rfl)) (W _ (List.mem_of_getElem? (i := 10) rfl)) (G _ (List.mem_of_getElem? (i := 9) rfl)) l0_A).2⟩
