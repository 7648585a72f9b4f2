theorem gst_cg {T : Nat} {g g' r r' : Nat → Int} : ∀ {m : Nat} {acc acc' : Int}, (∀ j, j < m → g j = g' j) → (∀ t, r t = r' t) → acc = acc' → gst T g r m acc = gst T g' r' m acc'
  | 0, _, _, _, _, h => h
  | m + 1, acc, acc', h1, h2, h3 => by
    unfold gst
    rw [gst_cg (m := m) (fun j hj => h1 j (by omega)) h2 h3, h1 m (by omega), h2]
theorem GN_cg {g g' : Nat → Nat → Int} {m : Nat} : ∀ {n : Nat}, (∀ i j, i < n → j < m → g i j = g' i j) → ∀ T, GN g m n T = GN g' m n T
  | 0, _, _ => rfl
  | n + 1, h, T => by
    have ih := GN_cg (n := n) (fun i j hi hj => h i j (by omega) hj)
    unfold GN
    exact gst_cg (fun j hj => h n j (by omega) hj) ih (ih T)
