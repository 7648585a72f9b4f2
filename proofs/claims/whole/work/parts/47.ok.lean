/-! The values that a step leaves lead to cells. -/
def VO (n : Nat) (L S : List Value) : Prop := (∀ v ∈ L, vOK n v) ∧ ∀ v ∈ S, vOK n v
theorem VO.c1 {n : Nat} {L S : List Value} {a : Value} (h : VO n L (a :: S)) : VO n L S := ⟨h.1, fun v hv => h.2 v (List.mem_cons_of_mem _ hv)⟩
theorem VO.p1 {n : Nat} {L S : List Value} {a : Value} (h : VO n L S) (ha : vOK n a) : VO n L (a :: S) := ⟨h.1, List.forall_mem_cons.mpr ⟨ha, h.2⟩⟩
theorem VO.hd {n : Nat} {L S : List Value} {a : Value} (h : VO n L (a :: S)) : vOK n a := h.2 a List.mem_cons_self
theorem VO.up {n n' : Nat} {L S : List Value} (h : VO n L S) (hn : n ≤ n') : VO n' L S := ⟨fun v hv => vOK_mono hn (h.1 v hv), fun v hv => vOK_mono hn (h.2 v hv)⟩
theorem mem_stL {L : List Value} {i : Nat} {w v : Value} (h : v ∈ stL L i w) : v = w ∨ v = vU ∨ v ∈ L := by
  have key : ∀ (l : List Value) (j : Nat) (a : Value), v ∈ l.set j a → v ∈ l ∨ v = a := fun l j a q => List.mem_or_eq_of_mem_set q
  unfold stL at h
  split at h
  · rcases key _ _ _ h with q | q
    · exact Or.inr (Or.inr q)
    · exact Or.inl q
  · split at h
    · rcases key _ _ _ h with q | q
      · rcases key _ _ _ q with q | q
        · exact Or.inr (Or.inr q)
        · exact Or.inr (Or.inl q)
      · exact Or.inl q
    · rcases key _ _ _ h with q | q
      · rcases key _ _ _ q with q | q
        · exact Or.inr (Or.inr q)
        · exact Or.inr (Or.inl q)
      · exact Or.inl q
    · rcases key _ _ _ h with q | q
      · exact Or.inr (Or.inr q)
      · exact Or.inl q
theorem VO.st {n : Nat} {L S : List Value} {i : Nat} {w : Value} (h : VO n L S) (hw : vOK n w) : VO n (stL L i w) S := ⟨fun v hv => by
  rcases mem_stL hv with rfl | rfl | q
  · exact hw
  · exact trivial
  · exact h.1 v q, h.2⟩
theorem VO.st2 {n : Nat} {L S : List Value} {i : Nat} {w : Value} (h : VO n L S) (hw : vOK n w) : VO n (stL2 L i w) S := ⟨fun v hv => by
  rcases List.mem_or_eq_of_mem_set hv with q | rfl
  · exact (h.st hw).1 v q
  · exact trivial, h.2⟩
theorem fget_ok {cl : List vw_C} {t : Nat} {z : SS} {c k : Nat} (h : WF cl z) (hc : c < z.1) : vOK z.1 (fget t z c k) := by
  unfold fget
  split
  · trivial
  · trivial
  · trivial
  · unfold rfv
    split
    · rename_i hq; exact h.1 _ _ _ hc hq
    · trivial
theorem b2_ok {f : Int32 → Int32 → Int32} {pc : Nat} {L S : List Value} {z : SS} {o : Cfg} (hv : VO z.1 L S) (h : b2 f pc L S z = some (.inl o)) : VO o.2.2.2.1 o.2.1 o.2.2.1 := by
  obtain ⟨x, y, r, rfl, rfl⟩ := b2_inv h
  exact hv.c1.c1.p1 trivial
theorem l2_ok {f : Int64 → Int64 → Int64} {pc : Nat} {L S : List Value} {z : SS} {o : Cfg} (hv : VO z.1 L S) (h : l2 f pc L S z = some (.inl o)) : VO o.2.2.2.1 o.2.1 o.2.2.1 := by
  obtain ⟨x, y, r, rfl, rfl⟩ := l2_inv h
  exact hv.c1.c1.p1 trivial
theorem ldL_ok {ty pc i : Nat} {L S : List Value} {z : SS} {o : Cfg} (hv : VO z.1 L S) (h : ldL ty pc i L S z = some (.inl o)) : VO o.2.2.2.1 o.2.1 o.2.2.1 := by
  obtain ⟨v, h1, -, rfl, -⟩ := ldL_inv h
  exact hv.p1 (hv.1 v (List.mem_of_getElem? h1))
theorem sto_ok {ty pc i : Nat} {L S : List Value} {z : SS} {o : Cfg} (hv : VO z.1 L S) (h : sto ty pc i L S z = some (.inl o)) : VO o.2.2.2.1 o.2.1 o.2.2.1 := by
  unfold sto at h
  split at h
  · split at h
    · cases h; exact hv.c1.st trivial
    · cases h
  · split at h
    · cases h; exact hv.c1.st2 trivial
    · cases h
  · split at h
    · cases h; exact hv.c1.st hv.hd
    · cases h
  · cases h
set_option maxHeartbeats 4000000 in
theorem sim1_ok {g : PG} {mid pc : Nat} {i : Instr} {L S : List Value} {z : SS} {o : Cfg} (hi : sim1 i = true) (hv : VO z.1 L S) (h : exec1 g mid pc i L S z = some (.inl o)) : VO o.2.2.2.1 o.2.1 o.2.2.1 := by
  unfold exec1 at h
  split at h
  all_goals first
    | exact b2_ok hv h
    | exact l2_ok hv h
    | exact ldL_ok hv h
    | exact sto_ok hv h
    | (cases h; exact hv.p1 trivial)
    | (cases hi)
    | skip
  all_goals try dsimp only at h
  all_goals repeat' split at h
  all_goals first
    | (cases h; exact hv.st trivial)
    | (cases h; exact hv.c1.c1.p1 trivial)
    | (cases h; exact hv.c1.p1 trivial)
    | (cases h; exact hv.p1 trivial)
    | (cases h; exact hv.p1 hv.hd)
    | (cases h; exact (hv.p1 hv.c1.hd).p1 trivial)
    | (cases h)
