theorem RR_wk {g : PG} : ∀ (f d mid pc : Nat) (L L' S : List Value) (z : SS) (r : Option Value × SS), Lle L L' → RR g f d mid (pc, L, S, z) = some r → RR g f d mid (pc, L', S, z) = some r := by
  intro f
  induction f with
  | zero => intro d mid pc L L' S z r _ h; cases h
  | succ f ih =>
    intro d mid pc L L' S z r hL h
    unfold RR at h ⊢
    cases hg : g.1 mid pc with
    | none =>
      have : step g mid (pc, L, S, z) = none := by unfold step; dsimp only; rw [hg]
      rw [this] at h
      cases h
    | some q =>
      obtain ⟨i, ln⟩ := q
      have e1 : step g mid (pc, L, S, z) = exec1 g mid pc i L S z := by unfold step; dsimp only; rw [hg]
      have e2 : step g mid (pc, L', S, z) = exec1 g mid pc i L' S z := by unfold step; dsimp only; rw [hg]
      rw [e1] at h
      rw [e2]
      cases hs : exec1 g mid pc i L S z with
      | none => rw [hs] at h; cases h
      | some o =>
        obtain ⟨L1, h1, h2⟩ := exec1_wk hL hs
        rw [hs] at h
        rw [h2]
        cases o with
        | inl c =>
          obtain ⟨pc1, La, S1, z1⟩ := c
          exact ih _ _ _ _ _ _ _ _ (h1 _ rfl) h
        | inr q =>
          cases q with
          | inl r' => exact h
          | inr t =>
            obtain ⟨cm, as, rest⟩ := t
            dsimp only [wk] at h ⊢
            cases d with
            | zero => cases h
            | succ d' =>
              dsimp only at h ⊢
              split at h
              · rename_i hl
                rw [if_pos hl]
                split at h
                · rename_i r' hr
                  exact ih _ _ _ _ _ _ _ _ hL h
                · cases h
              · cases h
theorem Runs.weak {g : PG} {d mid pc : Nat} {L L' S : List Value} {z : SS} {r : Option Value × SS} (hL : Lle L L') (h : Runs g d mid (pc, L, S, z) r) : Runs g d mid (pc, L', S, z) r := by
  obtain ⟨f, h⟩ := h
  exact ⟨f, RR_wk _ _ _ _ _ _ _ _ _ hL h⟩
