/-! Runs of the small machine, whatever the fuel. -/
theorem RR_fuel {g : PG} : ∀ (f d mid : Nat) (c : Cfg) (r : Option Value × SS), RR g f d mid c = some r → ∀ k, RR g (f + k) d mid c = some r := by
  intro f
  induction f with
  | zero => intro d mid c r h; cases h
  | succ f ih =>
    intro d mid c r h k
    rw [show f + 1 + k = (f + k) + 1 by omega]
    unfold RR at h ⊢
    split at h
    · rename_i c' hs
      exact ih _ _ _ _ h k
    · exact h
    · split at h
      · cases h
      · split at h
        · rename_i hl
          rw [if_pos hl]
          split at h
          · rename_i r' hr
            rw [ih _ _ _ _ hr k]
            exact ih _ _ _ _ h k
          · cases h
        · cases h
    · cases h
theorem RR_depth {g : PG} : ∀ (f d mid : Nat) (c : Cfg) (r : Option Value × SS), RR g f d mid c = some r → ∀ k, RR g f (d + k) mid c = some r := by
  intro f
  induction f with
  | zero => intro d mid c r h; cases h
  | succ f ih =>
    intro d mid c r h k
    unfold RR at h ⊢
    split at h
    · exact ih _ _ _ _ h k
    · exact h
    · split at h
      · cases h
      · rename_i d'
        split at h
        · rename_i hl
          rw [show d' + 1 + k = (d' + k) + 1 by omega]
          dsimp only
          rw [if_pos hl]
          split at h
          · rename_i r' hr
            rw [ih _ _ _ _ hr k]
            have := ih _ _ _ _ h k
            rw [show d' + 1 + k = (d' + k) + 1 by omega] at this
            exact this
          · cases h
        · cases h
    · cases h
theorem Runs.up {g : PG} {d mid : Nat} {c : Cfg} {r : Option Value × SS} (h : Runs g d mid c r) {d' : Nat} (hd : d ≤ d') : Runs g d' mid c r := by
  obtain ⟨f, h⟩ := h
  obtain ⟨k, rfl⟩ := Nat.exists_eq_add_of_le hd
  exact ⟨f, RR_depth _ _ _ _ _ h k⟩
theorem Runs.nx {g : PG} {d mid : Nat} {c c' : Cfg} {r : Option Value × SS} (hs : step g mid c = some (.inl c')) (h : Runs g d mid c' r) : Runs g d mid c r := by
  obtain ⟨f, h⟩ := h
  refine ⟨f + 1, ?_⟩
  unfold RR
  rw [hs]
  exact h
theorem Runs.rt {g : PG} {d mid : Nat} {c : Cfg} {r : Option Value × SS} (hs : step g mid c = some (.inr (.inl r))) : Runs g d mid c r := by
  refine ⟨1, ?_⟩
  unfold RR
  rw [hs]
theorem Runs.cl {g : PG} {d mid cm : Nat} {c : Cfg} {as rest : List Value} {r1 r : Option Value × SS} (hs : step g mid c = some (.inr (.inr (cm, as, rest)))) (hl : (as.flatMap unL).length ≤ (g.2.2.2.2.1 cm).1) (h1 : Runs g d cm (0, mkL (g.2.2.2.2.1 cm).1 as, [], c.2.2.2) r1) (h2 : Runs g (d + 1) mid (c.1 + 3, c.2.1, r1.1.toList ++ rest, r1.2) r) : Runs g (d + 1) mid c r := by
  obtain ⟨f1, h1⟩ := h1
  obtain ⟨f2, h2⟩ := h2
  refine ⟨f1 + f2 + 1, ?_⟩
  unfold RR
  rw [hs]
  dsimp only
  rw [if_pos hl, RR_fuel _ _ _ _ _ h1 f2]
  dsimp only
  have := RR_fuel _ _ _ _ _ h2 f1
  rw [Nat.add_comm f1 f2]
  exact this
/-- some steps on -/
def stN (g : PG) (mid : Nat) : Nat → Cfg → Option Cfg
  | 0, c => some c
  | n + 1, c => match step g mid c with
    | some (.inl c') => stN g mid n c'
    | _ => none
theorem Runs.sN {g : PG} {d mid : Nat} {r : Option Value × SS} : ∀ (n : Nat) {c c' : Cfg}, stN g mid n c = some c' → Runs g d mid c' r → Runs g d mid c r := by
  intro n
  induction n with
  | zero => intro c c' h k; cases h; exact k
  | succ n ih =>
    intro c c' h k
    unfold stN at h
    split at h
    · rename_i c1 hs
      exact Runs.nx hs (ih h k)
    · cases h
