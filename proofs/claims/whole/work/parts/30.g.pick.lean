/-! a world out of another by places -/
theorem pk_at {is : List Nat} {ws w : va_W} (h : is.map (fun i => ws[i]?) = w.map some) {k : Nat} {x : Nat × va_E} (hx : w[k]? = some x) : ∃ i, is[k]? = some i ∧ ws[i]? = some x := by
  have h1 : (is.map (fun i => ws[i]?))[k]? = some (some x) := by rw [h, List.getElem?_map, hx]; rfl
  rw [List.getElem?_map] at h1
  cases hi : is[k]? with
  | none => rw [hi] at h1; cases h1
  | some i => rw [hi] at h1; exact ⟨i, rfl, Option.some.inj h1⟩
theorem pk_P {D : va_G} {cl : List vw_C} {H : Heap} {is : List Nat} {ws w : va_W} (h : is.map (fun i => ws[i]?) = w.map some) (hP : va_P D cl ws H) : va_P D cl w H := fun k x hx => by
  obtain ⟨i, -, h2⟩ := pk_at h hx
  exact hP i x h2
theorem pk_D {A B : Nat → Prop} {is : List Nat} {ws w : va_W} (h : is.map (fun i => ws[i]?) = w.map some) (hn : is.Nodup) (hD : va_D A ws) (hB : ∀ (k : Nat) (x : Nat × va_E), w[k]? = some x → B x.1) : va_D B w := by
  refine ⟨fun i j x y hx hy he => ?_, hB⟩
  obtain ⟨a, h1, h2⟩ := pk_at h hx
  obtain ⟨b, h3, h4⟩ := pk_at h hy
  have e := hD.1 a b x y h2 h4 he
  subst e
  obtain ⟨hi, ei⟩ := List.getElem?_eq_some_iff.mp h1
  obtain ⟨hj, ej⟩ := List.getElem?_eq_some_iff.mp h3
  exact (List.Nodup.getElem_inj_iff hn).mp (ei.trans ej.symm)
