/-! a world out of another by places -/
theorem pk_at {is : List Nat} {ws w : va_W} (h : is.map (fun i => ws[i]?) = w.map some) {k : Nat} {x : Nat × va_E} (hx : w[k]? = some x) : ∃ i, is[k]? = some i ∧ ws[i]? = some x := by
  have h1 : (is.map (fun i => ws[i]?))[k]? = some (some x) := by rw [h, List.getElem?_map, hx]; rfl
  rw [List.getElem?_map] at h1
  cases hi : is[k]? with
  | none => rw [hi] at h1; cases h1
  | some i => rw [hi] at h1; exact ⟨i, rfl, Option.some.inj h1⟩
theorem pk_P {D : va_G} {cl : List vw_C} {H : Heap} {is : List Nat} {ws w : va_W} (h : is.map (fun i => ws[i]?) = w.map some) (hP : va_P D cl ws H) : va_P D cl w H := fun k x hx => by
  obtain ⟨i, -, h2⟩ := pk_at h hx
  exact hP i x h2
theorem pk_D {A B : Nat → Prop} {is : List Nat} {ws w : va_W} (h : is.map (fun i => ws[i]?) = w.map some) (hn : ∀ i, i < is.length → ∀ j, j < is.length → is[i]? = is[j]? → i = j) (hD : va_D A ws) (hB : ∀ (k : Nat) (x : Nat × va_E), w[k]? = some x → B x.1) : va_D B w := by
  refine ⟨fun i j x y hx hy he => ?_, hB⟩
  obtain ⟨a, h1, h2⟩ := pk_at h hx
  obtain ⟨b, h3, h4⟩ := pk_at h hy
  have e := hD.1 a b x y h2 h4 he
  subst e
  exact hn i (List.getElem?_eq_some_iff.mp h1).1 j (List.getElem?_eq_some_iff.mp h3).1 (h1.trans h3.symm)
theorem va_P.left {D : va_G} {cl : List vw_C} {H : Heap} {a b : va_W} (h : va_P D cl (a ++ b) H) : va_P D cl a H := va_P.of (fun y hy => h.mem (List.mem_append_left _ hy))
theorem va_P.right {D : va_G} {cl : List vw_C} {H : Heap} {a b : va_W} (h : va_P D cl (a ++ b) H) : va_P D cl b H := va_P.of (fun y hy => h.mem (List.mem_append_right _ hy))
/-- the class's cells and out, without the reference's -/
theorem md_P {D : va_G} {cl : List vw_C} {H : Heap} {a b o : va_W} (h : va_P D cl (a ++ (b ++ o)) H) : va_P D cl (a ++ o) H := va_P.of (fun y hy => h.mem (by
  rcases List.mem_append.mp hy with h1 | h1
  · exact List.mem_append_left _ h1
  · exact List.mem_append_right _ (List.mem_append_right _ h1)))
theorem md_D {A B : Nat → Prop} {a b o : va_W} (h : va_D A (a ++ (b ++ o))) (hB : ∀ q, A q → (∀ y ∈ b, y.1 ≠ q) → B q) : va_D B (a ++ o) := by
  have hc := h.cnt
  simp only [adr_app, List.count_append] at hc
  refine va_D.of (fun q => ?_) (fun y hy => ?_)
  · have := hc q
    simp only [adr_app, List.count_append]
    omega
  · have h0 : 0 < (adr a).count y.1 + (adr o).count y.1 := by
      rcases List.mem_append.mp hy with h1 | h1
      · have := adr_mem h1; omega
      · have := adr_mem h1; omega
    refine hB y.1 (h.mem (by
      rcases List.mem_append.mp hy with h1 | h1
      · exact List.mem_append_left _ h1
      · exact List.mem_append_right _ (List.mem_append_right _ h1))) (fun z hz e => ?_)
    have h1 := hc y.1
    have h2 := adr_mem hz
    rw [e] at h2
    omega
