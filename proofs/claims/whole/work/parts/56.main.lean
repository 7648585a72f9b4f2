/-! The main theorem: what the small machine runs, the machine runs. -/
theorem ret_inv {g : PG} {mid pc : Nat} {i : Instr} {L S : List Value} {z : SS} {r : Option Value × SS} (h : exec1 g mid pc i L S z = some (.inr (.inl r))) : r.2 = z ∧ i = rI r.1 ∧ S = r.1.toList ∧ rOK (g.2.2.2.2.1 mid).2 r.1 := by
  unfold exec1 at h
  split at h
  all_goals try unfold b2 at h
  all_goals try unfold l2 at h
  all_goals try unfold ldL at h
  all_goals try unfold sto at h
  all_goals try unfold ald at h
  all_goals try unfold ast at h
  all_goals try unfold nx at h
  all_goals try dsimp only at h
  all_goals repeat' split at h
  all_goals try unfold built nx at h
  all_goals repeat' split at h
  all_goals first
    | (cases h; exact ⟨rfl, rfl, rfl, by assumption⟩)
    | cases h
def isCall (g : PG) (mid pc : Nat) (i : Instr) (S : List Value) (z : SS) (cm : Nat) (as rest : List Value) : Prop :=
  (g.2.1 mid pc).2.2.2 = 0 ∧ cm = (g.2.1 mid pc).1 ∧ catS rest ≤ 8 ∧ ((∃ idx, i = .invokestatic idx ∧ S = as.reverse ++ rest ∧ as.length = (g.2.1 mid pc).2.1) ∨
    ∃ idx c as', (i = .invokevirtual idx ∨ i = .invokespecial idx) ∧ as = .ref c :: as' ∧ S = as'.reverse ++ .ref c :: rest ∧ as'.length = (g.2.1 mid pc).2.1 ∧ c < z.1 ∧ (z.2.2.1 c).1 = (g.2.1 mid pc).2.2.1)
theorem drop_cons {S : List Value} {n : Nat} {c : Value} {r : List Value} (h : S.drop n = c :: r) : S = (S.take n).reverse.reverse ++ c :: r ∧ (S.take n).reverse.length = n := by
  rw [List.reverse_reverse, ← h, List.take_append_drop]
  refine ⟨rfl, ?_⟩
  have : (S.drop n).length = S.length - n := List.length_drop
  rw [h] at this
  simp only [List.length_cons] at this
  simp only [List.length_reverse, List.length_take]
  omega
theorem built_no {g : PG} {b pc : Nat} {L S : List Value} {z : SS} {q : Nat × List Value × List Value} (h : built g b pc L S z = some (.inr (.inr q))) : False := by
  unfold built nx at h
  repeat' split at h
  all_goals cases h
theorem call_inv {g : PG} {mid pc : Nat} {i : Instr} {L S : List Value} {z : SS} {cm : Nat} {as rest : List Value} (h : exec1 g mid pc i L S z = some (.inr (.inr (cm, as, rest)))) : isCall g mid pc i S z cm as rest := by
  unfold exec1 at h
  split at h
  all_goals try unfold b2 at h
  all_goals try unfold l2 at h
  all_goals try unfold ldL at h
  all_goals try unfold sto at h
  all_goals try unfold ald at h
  all_goals try unfold ast at h
  all_goals try unfold nx at h
  all_goals try dsimp only at h
  all_goals repeat' split at h
  all_goals first
    | exact absurd h (fun q => built_no q)
    | (cases h; done)
    | skip
  · rename_i q0 q1
    cases h
    exact ⟨q0, rfl, q1.2, Or.inl ⟨_, rfl, by rw [List.reverse_reverse, List.take_append_drop], by rw [List.length_reverse, List.length_take]; omega⟩⟩
  · rename_i q0 _ _ _ q2 q1
    cases h
    obtain ⟨e1, e2⟩ := drop_cons q2
    exact ⟨q0, rfl, q1.1, Or.inr ⟨_, _, _, Or.inl rfl, rfl, e1, e2, q1.2.1, q1.2.2⟩⟩
  · rename_i q0 _ _ _ q2 q1
    cases h
    obtain ⟨e1, e2⟩ := drop_cons q2
    exact ⟨q0, rfl, q1.1, Or.inr ⟨_, _, _, Or.inr rfl, rfl, e1, e2, q1.2.1, q1.2.2⟩⟩
theorem RR_mono {g : PG} : ∀ (f d mid : Nat) (cf : Cfg) (r : Option Value × SS), RR g f d mid cf = some r → cf.2.2.2.1 ≤ r.2.1 ∧ cf.2.2.2.2.1 ≤ r.2.2.1 := by
  intro f
  induction f with
  | zero => intro d mid cf r h; cases h
  | succ f ih =>
    intro d mid cf r h
    unfold RR at h
    split at h
    · rename_i c' hs
      unfold step at hs
      split at hs
      · have h1 := exec1_mono hs
        have h2 := ih d mid c' r h
        exact ⟨Nat.le_trans h1.1 h2.1, Nat.le_trans h1.2 h2.2⟩
      · cases hs
    · rename_i r' hs
      unfold step at hs
      split at hs
      · obtain ⟨q, -⟩ := ret_inv hs
        cases h
        rw [q]
        exact ⟨Nat.le_refl _, Nat.le_refl _⟩
      · cases hs
    · split at h
      · cases h
      · split at h
        · split at h
          · rename_i r' hr
            have h1 := ih _ _ _ _ hr
            have h2 := ih _ _ _ _ h
            exact ⟨Nat.le_trans h1.1 h2.1, Nat.le_trans h1.2 h2.2⟩
          · cases h
        · cases h
    · cases h
