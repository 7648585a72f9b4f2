/-! A run doesn't read a place of the locals that holds nothing: whatever else stands there, it is the same run. -/
def Lle : List Value → List Value → Prop
  | [], [] => True
  | a :: t, b :: u => (a = vU ∨ a = b) ∧ Lle t u
  | _, _ => False
theorem Lle.rf : ∀ L : List Value, Lle L L
  | [] => trivial
  | _ :: t => ⟨Or.inr rfl, Lle.rf t⟩
theorem Lle.len : ∀ {L L' : List Value}, Lle L L' → L.length = L'.length
  | [], [], _ => rfl
  | _ :: _, _ :: _, h => by simp only [List.length_cons, Lle.len h.2]
  | [], _ :: _, h => h.elim
  | _ :: _, [], h => h.elim
theorem Lle.at : ∀ {L L' : List Value} (_ : Lle L L') (i : Nat) {v : Value}, L[i]? = some v → v ≠ vU → L'[i]? = some v
  | [], _, _, i, v, hi, _ => by simp at hi
  | a :: t, b :: u, h, 0, v, hi, hv => by
    simp only [List.getElem?_cons_zero, Option.some.injEq] at hi ⊢
    subst hi
    rcases h.1 with q | q
    · exact absurd q hv
    · exact q.symm
  | a :: t, b :: u, h, i + 1, v, hi, hv => by
    simp only [List.getElem?_cons_succ] at hi ⊢
    exact Lle.at h.2 i hi hv
theorem Lle.set : ∀ {L L' : List Value} (_ : Lle L L') (i : Nat) (v : Value), Lle (L.set i v) (L'.set i v)
  | [], [], _, _, _ => trivial
  | _ :: _, _ :: _, h, 0, _ => ⟨Or.inr rfl, h.2⟩
  | _ :: _, _ :: _, h, i + 1, v => ⟨h.1, Lle.set h.2 i v⟩
  | [], _ :: _, h, _, _ => h.elim
  | _ :: _, [], h, _, _ => h.elim
theorem Lle.vset : ∀ {L L' : List Value} (_ : Lle L L') (i : Nat) (w : Value), L[i]? = some vU ∨ L[i]? = none → Lle L (L'.set i w)
  | [], [], _, _, _, _ => trivial
  | a :: _, _ :: _, h, 0, _, q => ⟨Or.inl (by rcases q with q | q <;> simp at q; exact q), h.2⟩
  | _ :: _, _ :: _, h, i + 1, w, q => ⟨h.1, Lle.vset h.2 i w (by simpa using q)⟩
  | [], _ :: _, h, _, _, _ => h.elim
  | _ :: _, [], h, _, _, _ => h.elim
theorem Lle.st {L L' : List Value} (h : Lle L L') (i : Nat) (v : Value) : Lle (stL L i v) (stL L' i v) := by
  cases i with
  | zero => exact h.set 0 v
  | succ j =>
    have key : ∀ w : Value, L[j]? = some w → w ≠ vU → L'[j]? = some w := fun w q1 q2 => h.at j q1 q2
    have hl := h.len
    unfold stL
    dsimp only
    split
    · rename_i x hx
      rw [key _ hx (fun q => by cases q)]
      exact (h.set j vU).set (j + 1) v
    · rename_i x hx
      rw [key _ hx (fun q => by cases q)]
      exact (h.set j vU).set (j + 1) v
    · rename_i n1 n2
      by_cases hq : L[j]? = some vU ∨ L[j]? = none
      · split
        · exact (h.vset j vU hq).set (j + 1) v
        · exact (h.vset j vU hq).set (j + 1) v
        · exact h.set (j + 1) v
      · have : ∃ w, L[j]? = some w ∧ w ≠ vU := by
          cases hw : L[j]? with
          | none => exact absurd (Or.inr hw) hq
          | some w => exact ⟨w, rfl, fun q => hq (Or.inl (by rw [hw, q]))⟩
        obtain ⟨w, hw, hne⟩ := this
        rw [key w hw hne]
        split
        · rename_i x hx; cases hx; exact absurd hw (n1 x)
        · rename_i x hx; cases hx; exact absurd hw (n2 x)
        · exact h.set (j + 1) v
theorem Lle.st2 {L L' : List Value} (h : Lle L L') (i : Nat) (v : Value) : Lle (stL2 L i v) (stL2 L' i v) := (h.st i v).set (i + 1) vU
theorem ldL_weak {ty pc i : Nat} {L L' S : List Value} {z : SS} {o : Cfg} (hL : Lle L L') (h : ldL ty pc i L S z = some (.inl o)) : o.2.1 = L ∧ ldL ty pc i L' S z = some (.inl (o.1, L', o.2.2)) := by
  unfold ldL at h ⊢
  split at h
  · rename_i x e; cases h; rw [hL.at _ e (fun q => by cases q)]; exact ⟨rfl, rfl⟩
  · rename_i x e; cases h; rw [hL.at _ e (fun q => by cases q)]; exact ⟨rfl, rfl⟩
  · rename_i x e; cases h; rw [hL.at _ e (fun q => by cases q)]; exact ⟨rfl, rfl⟩
  · rename_i k e
    split at h
    · rename_i hk
      cases h
      rw [hL.at _ e (fun q => by cases q; omega)]
      exact ⟨rfl, if_pos hk⟩
    · cases h
  · cases h
theorem sto_weak {ty pc i : Nat} {L L' S : List Value} {z : SS} {o : Cfg} (hL : Lle L L') (h : sto ty pc i L S z = some (.inl o)) : ∃ L1, Lle o.2.1 L1 ∧ sto ty pc i L' S z = some (.inl (o.1, L1, o.2.2)) := by
  have hl := hL.len
  unfold sto at h ⊢
  split at h
  · split at h
    · rename_i hk; cases h; exact ⟨_, hL.st _ _, if_pos (by omega)⟩
    · cases h
  · split at h
    · rename_i hk; cases h; exact ⟨_, hL.st2 _ _, if_pos (by omega)⟩
    · cases h
  · split at h
    · rename_i hk; cases h; exact ⟨_, hL.st _ _, if_pos (by omega)⟩
    · cases h
  · cases h
/-- an outcome with other locals -/
def wk (L' : List Value) (o : Out) : Out := match o with
  | .inl c => .inl (c.1, L', c.2.2)
  | q => q
