/-! the first states: what the constructors make -/
def sg0 : SC := (fun _ => 0, fun k => if k = 4 then flf (fun _ => 0) 10 2 else if k = 6 then flf (fun _ => 0) 4 50 else if k = 7 then flf (fun _ => 0) 180 (-1) else fun _ => 0, fun _ => 0, fun k => if k = 1 then 1 else 0, fun _ _ => 0, fun _ => 0, fun _ _ => 0, fun _ => 0, fun _ _ => 0, fun _ => 0)
def rh0 : SR := (fun _ => 0, fun k => if k = 8 then flf (fun _ => 0) 10 2 else if k = 28 then upd (upd (upd (upd (fun _ => 0) 0 50) 1 50) 2 50) 3 50 else if k = 29 then flf (fun _ => 0) 180 (-1) else fun _ => 0, fun _ => 0)
theorem up50 : upd (upd (upd (upd (fun _ => (0 : Int32)) 0 50) 1 50) 2 50) 3 50 = flf (fun _ => 0) 4 50 := by
  rw [show (fun _ : Nat => (0 : Int32)) = flf (fun _ => 0) 0 50 from (flf_0 _ _).symm, flf_s, flf_s, flf_s, flf_s, flf_0]
theorem flf_or (n : Nat) (v : Int32) (i : Nat) : flf (fun _ => 0) n v i = v ∨ flf (fun _ => 0) n v i = 0 := by
  unfold flf
  by_cases h : i < n
  · exact Or.inl (if_pos h)
  · exact Or.inr (if_neg h)
theorem wf0 : WF sg0 := ⟨fun i hi => absurd hi (Nat.not_lt_zero i), by decide, by decide, by decide, by decide⟩
theorem rel0 : Rel sg0 rh0 := by
  refine ⟨⟨rfl, rfl, 0, by decide, rfl, fun i => by show ¬ (0 : Int32) = -1; decide⟩, ⟨rfl, rfl, 0, by decide, rfl, fun i hi => absurd hi (Nat.not_lt_zero i)⟩, ⟨rfl, rfl⟩, ⟨rfl, rfl, fun i => ?_, fun i => Or.inl rfl⟩, ⟨rfl, by decide, fun i hi => absurd hi (Nat.not_lt_zero i)⟩, ⟨⟨rfl, rfl, by decide, rfl, fun j k _ _ => rfl, fun i _ => rfl, fun j _ => ⟨0, by decide, rfl⟩⟩, fun j _ => ⟨0, 0, by decide, Nat.zero_le _, rfl, rfl⟩, rfl⟩, ⟨rfl, by decide, fun e he => absurd he (Nat.not_lt_zero e), fun i hi => absurd hi (Nat.not_lt_zero i)⟩, ⟨up50.symm, fun i => ?_⟩, ⟨rfl, rfl, fun i => ?_, fun i => Or.inl rfl⟩⟩
  · rcases flf_or 10 2 i with h | h
    · exact ⟨2, by decide, h⟩
    · exact ⟨0, by decide, h⟩
  · show ∃ v : Nat, v ≤ 100 ∧ upd (upd (upd (upd (fun _ => (0 : Int32)) 0 50) 1 50) 2 50) 3 50 i = nI v
    rw [up50]
    rcases flf_or 4 50 i with h | h
    · exact ⟨50, by decide, h⟩
    · exact ⟨0, by decide, h⟩
  · rcases flf_or 180 (-1) i with h | h
    · exact Or.inl h
    · exact Or.inr ⟨0, by decide, h⟩
