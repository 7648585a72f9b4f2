/-! The instructions that leave the heap as it is. -/
def prs (al sp : Nat → Nat) (L : List Value) : List (Nat × Value) := (List.range L.length).filterMap (fun i => (L[i]?).bind (fun v => if v = vU then none else some (i, tV al sp v)))
theorem mem_prs {al sp : Nat → Nat} {L : List Value} {i : Nat} {w : Value} : (i, w) ∈ prs al sp L ↔ ∃ v, L[i]? = some v ∧ v ≠ vU ∧ w = tV al sp v := by
  unfold prs
  rw [List.mem_filterMap]
  constructor
  · rintro ⟨j, -, h⟩
    rw [Option.bind_eq_some_iff] at h
    obtain ⟨v, h1, h2⟩ := h
    by_cases hv : v = vU
    · simp [hv] at h2
    · rw [if_neg hv] at h2
      cases h2
      exact ⟨v, h1, hv, rfl⟩
  · rintro ⟨v, h1, h2, rfl⟩
    refine ⟨i, List.mem_range.mpr (List.getElem?_eq_some_iff.mp h1).1, ?_⟩
    rw [h1]
    simp [h2]
theorem LR.has {al sp : Nat → Nat} {L : List Value} {ls : Array Slot} {nL : Nat} (h : LR al sp L ls nL) : lv_has ls nL (prs al sp L) := by
  refine ⟨h.1, h.2.1, ?_⟩
  rintro ⟨i, w⟩ hq
  obtain ⟨v, h1, h2, rfl⟩ := mem_prs.mp hq
  exact h.2.2.2 i v h1 h2
theorem LR.of {al sp : Nat → Nat} {L : List Value} {ls : Array Slot} {nL : Nat} {l : List (Nat × Value)} (h : lv_has ls nL l) (hn : L.length = nL) (hm : ∀ (i : Nat) (v : Value), L[i]? = some v → v ≠ vU → (i, tV al sp v) ∈ l) : LR al sp L ls nL :=
  ⟨h.1, h.2.1, hn, fun i v h1 h2 => h.2.2 _ (hm i v h1 h2)⟩
theorem stL_len (L : List Value) (i : Nat) (v : Value) : (stL L i v).length = L.length := by
  unfold stL
  split
  · simp
  · split <;> simp
theorem stL_at {L : List Value} {i : Nat} {v : Value} (h : i < L.length) : (stL L i v)[i]? = some v := by
  unfold stL
  split
  · simp [h]
  · split <;> simp [h]
theorem stL_ne {L : List Value} {i j : Nat} {v w : Value} (hj : j ≠ i) (h : (stL L i v)[j]? = some w) (hw : w ≠ vU) : L[j]? = some w ∧ (j + 1 = i → (w.category == 2) = false) := by
  unfold stL at h
  split at h
  · rw [List.getElem?_set_ne (fun q => hj q.symm)] at h
    exact ⟨h, fun q => by omega⟩
  · rename_i k
    split at h
    · rename_i x hx
      rw [List.getElem?_set_ne (fun q => hj q.symm)] at h
      by_cases hk : k = j
      · subst hk
        have := (List.getElem?_eq_some_iff.mp hx).1
        simp [this] at h
        exact absurd h.symm hw
      · rw [List.getElem?_set_ne hk] at h
        exact ⟨h, fun q => by omega⟩
    · rename_i x hx
      rw [List.getElem?_set_ne (fun q => hj q.symm)] at h
      by_cases hk : k = j
      · subst hk
        have := (List.getElem?_eq_some_iff.mp hx).1
        simp [this] at h
        exact absurd h.symm hw
      · rw [List.getElem?_set_ne hk] at h
        exact ⟨h, fun q => by omega⟩
    · rename_i n1 n2
      rw [List.getElem?_set_ne (fun q => hj q.symm)] at h
      refine ⟨h, fun q => ?_⟩
      have : j = k := by omega
      subst this
      cases w with
      | long x => exact absurd h (n1 x)
      | double x => exact absurd h (n2 x)
      | _ => rfl
theorem LR.st1 {al sp : Nat → Nat} {L : List Value} {ls' : Array Slot} {nL i : Nat} {v : Value} {lv : List (Nat × Value)} (hn : L.length = nL) (hi : i < nL) (hlv : ∀ q ∈ prs al sp L, q ∈ lv)
    (h' : lv_has ls' nL ((i, tV al sp v) :: lv.filter (fun q => !(q.1 == i) && !(q.1 + 1 == i && q.2.category == 2)))) : LR al sp (stL L i v) ls' nL := by
  refine LR.of h' (by rw [stL_len]; exact hn) (fun j w hj hw => ?_)
  by_cases e : j = i
  · subst e
    rw [stL_at (by omega)] at hj
    cases hj
    exact List.mem_cons_self
  · obtain ⟨h1, h2⟩ := stL_ne e hj hw
    refine List.mem_cons_of_mem _ (List.mem_filter.mpr ⟨hlv _ (mem_prs.mpr ⟨w, h1, hw, rfl⟩), ?_⟩)
    simp only [tV_cat, beq_eq_false_iff_ne.mpr e, Bool.not_false, Bool.true_and]
    by_cases q : j + 1 = i
    · rw [h2 q]; simp
    · simp [q]
theorem LR.st2 {al sp : Nat → Nat} {L : List Value} {ls' : Array Slot} {nL i : Nat} {v : Value} {lv : List (Nat × Value)} (hn : L.length = nL) (hi : i + 1 < nL) (hlv : ∀ q ∈ prs al sp L, q ∈ lv)
    (h' : lv_has ls' nL ((i, tV al sp v) :: lv.filter (fun q => !(q.1 == i) && (!(q.1 == i + 1) && !(q.1 + 1 == i && q.2.category == 2))))) : LR al sp (stL2 L i v) ls' nL := by
  refine LR.of h' (by unfold stL2; rw [List.length_set, stL_len]; exact hn) (fun j w hj hw => ?_)
  unfold stL2 at hj
  by_cases e2 : j = i + 1
  · subst e2
    rw [List.getElem?_set_self (by rw [stL_len]; omega)] at hj
    cases hj
    exact absurd rfl hw
  rw [List.getElem?_set_ne (fun q => e2 q.symm)] at hj
  by_cases e : j = i
  · subst e
    rw [stL_at (by omega)] at hj
    cases hj
    exact List.mem_cons_self
  · obtain ⟨h1, h2⟩ := stL_ne e hj hw
    refine List.mem_cons_of_mem _ (List.mem_filter.mpr ⟨hlv _ (mem_prs.mpr ⟨w, h1, hw, rfl⟩), ?_⟩)
    simp only [tV_cat, beq_eq_false_iff_ne.mpr e, beq_eq_false_iff_ne.mpr e2, Bool.not_false, Bool.true_and]
    by_cases q : j + 1 = i
    · rw [h2 q]; simp
    · simp [q]
theorem b2_inv {f : Int32 → Int32 → Int32} {pc : Nat} {L S : List Value} {z : SS} {o : Cfg} (h : b2 f pc L S z = some (.inl o)) : ∃ x y r, S = .int y :: .int x :: r ∧ o = (pc + 1, L, .int (f x y) :: r, z) := by
  unfold b2 at h
  split at h
  · cases h; exact ⟨_, _, _, rfl, rfl⟩
  · cases h
theorem l2_inv {f : Int64 → Int64 → Int64} {pc : Nat} {L S : List Value} {z : SS} {o : Cfg} (h : l2 f pc L S z = some (.inl o)) : ∃ x y r, S = .long y :: .long x :: r ∧ o = (pc + 1, L, .long (f x y) :: r, z) := by
  unfold l2 at h
  split at h
  · cases h; exact ⟨_, _, _, rfl, rfl⟩
  · cases h
