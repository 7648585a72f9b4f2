/-! A step keeps the cells and slots that are there, and the values it leaves lead to cells. -/
theorem built_mono {g : PG} {b pc : Nat} {L S : List Value} {z : SS} {o : Cfg} (h : built g b pc L S z = some (.inl o)) : z.1 ≤ o.2.2.2.1 ∧ z.2.1 ≤ o.2.2.2.2.1 := by
  unfold built at h
  repeat' split at h
  all_goals first | (cases h; exact ⟨Nat.le_refl _, Nat.le_refl _⟩) | cases h
theorem ald_mono {g : PG} {ty pc : Nat} {L S : List Value} {z : SS} {o : Cfg} (h : ald g ty pc L S z = some (.inl o)) : z.1 ≤ o.2.2.2.1 ∧ z.2.1 ≤ o.2.2.2.2.1 := by
  unfold ald at h
  repeat' split at h
  all_goals first | (cases h; exact ⟨Nat.le_refl _, Nat.le_refl _⟩) | cases h
theorem ast_mono {ty pc : Nat} {L S : List Value} {z : SS} {o : Cfg} (h : ast ty pc L S z = some (.inl o)) : z.1 ≤ o.2.2.2.1 ∧ z.2.1 ≤ o.2.2.2.2.1 := by
  unfold ast at h
  repeat' split at h
  all_goals first | (cases h; exact ⟨Nat.le_refl _, Nat.le_refl _⟩) | cases h
theorem sto_mono {ty pc i : Nat} {L S : List Value} {z : SS} {o : Cfg} (h : sto ty pc i L S z = some (.inl o)) : z.1 ≤ o.2.2.2.1 ∧ z.2.1 ≤ o.2.2.2.2.1 := by
  unfold sto at h
  repeat' split at h
  all_goals first | (cases h; exact ⟨Nat.le_refl _, Nat.le_refl _⟩) | cases h
theorem ldL_mono {ty pc i : Nat} {L S : List Value} {z : SS} {o : Cfg} (h : ldL ty pc i L S z = some (.inl o)) : z.1 ≤ o.2.2.2.1 ∧ z.2.1 ≤ o.2.2.2.2.1 := by
  unfold ldL at h
  repeat' split at h
  all_goals first | (cases h; exact ⟨Nat.le_refl _, Nat.le_refl _⟩) | cases h
theorem b2_mono {f : Int32 → Int32 → Int32} {pc : Nat} {L S : List Value} {z : SS} {o : Cfg} (h : b2 f pc L S z = some (.inl o)) : z.1 ≤ o.2.2.2.1 ∧ z.2.1 ≤ o.2.2.2.2.1 := by
  obtain ⟨x, y, r, rfl, rfl⟩ := b2_inv h
  exact ⟨Nat.le_refl _, Nat.le_refl _⟩
theorem l2_mono {f : Int64 → Int64 → Int64} {pc : Nat} {L S : List Value} {z : SS} {o : Cfg} (h : l2 f pc L S z = some (.inl o)) : z.1 ≤ o.2.2.2.1 ∧ z.2.1 ≤ o.2.2.2.2.1 := by
  obtain ⟨x, y, r, rfl, rfl⟩ := l2_inv h
  exact ⟨Nat.le_refl _, Nat.le_refl _⟩
theorem al_mono (z : SS) (k n : Nat) : z.1 ≤ (alloc z k n).1 ∧ z.2.1 ≤ (alloc z k n).2.1 := ⟨Nat.le_succ _, Nat.le_add_right _ _⟩
set_option maxHeartbeats 4000000 in
theorem exec1_mono {g : PG} {mid pc : Nat} {i : Instr} {L S : List Value} {z : SS} {o : Cfg} (h : exec1 g mid pc i L S z = some (.inl o)) : z.1 ≤ o.2.2.2.1 ∧ z.2.1 ≤ o.2.2.2.2.1 := by
  unfold exec1 at h
  split at h
  all_goals first
    | exact b2_mono h
    | exact l2_mono h
    | exact ldL_mono h
    | exact sto_mono h
    | exact ald_mono h
    | exact ast_mono h
    | (cases h; exact ⟨Nat.le_refl _, Nat.le_refl _⟩)
    | (cases h; exact al_mono _ _ _)
    | cases h
    | skip
  all_goals try dsimp only at h
  all_goals repeat' split at h
  all_goals first
    | exact built_mono h
    | (cases h; exact ⟨Nat.le_refl _, Nat.le_refl _⟩)
    | (cases h; exact al_mono _ _ _)
    | cases h
    | skip
  all_goals
    rename_i hf
    obtain ⟨e1, e2, -⟩ := fput_one hf
    exact ⟨Nat.le_of_eq e1.symm, Nat.le_of_eq e2.symm⟩
