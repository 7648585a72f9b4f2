/-! LEAST FAR: a fold over pairs. -/
def lsj (F : Nat → Nat → Int) (s i : Nat) (p : Int × Int × Int) : Nat → Int × Int × Int
  | 0 => p
  | m + 1 => if (s.testBit i && s.testBit (i + 1 + m)) then (if (lsj F s i p m).2.1 = -1 ∨ F i (i + 1 + m) < (lsj F s i p m).1 then (F i (i + 1 + m), (i : Int), ((i + 1 + m : Nat) : Int)) else lsj F s i p m) else lsj F s i p m
def lsi (F : Nat → Nat → Int) (s : Nat) : Nat → Int × Int × Int
  | 0 => (-1, -1, -1)
  | i + 1 => lsj F s i (lsi F s i) (11 - i)
def lsok (p : Int × Int × Int) : Prop := (p.1 = -1 ∧ p.2.1 = -1) ∨ (0 ≤ p.1 ∧ p.1 ≤ 2000 ∧ 0 ≤ p.2.1 ∧ p.2.1 < 12 ∧ 0 ≤ p.2.2 ∧ p.2.2 < 12)
theorem lsj_ok {F : Nat → Nat → Int} {s i : Nat} {p : Int × Int × Int} (hF : ∀ a b, 0 ≤ F a b ∧ F a b ≤ 2000) (hp : lsok p) (hi : i < 12) : ∀ m, m ≤ 11 - i → lsok (lsj F s i p m)
  | 0, _ => hp
  | m + 1, hm => by
    have ih := lsj_ok (s := s) hF hp hi m (by omega)
    have := hF i (i + 1 + m)
    unfold lsj
    split
    · split
      · right; dsimp only; omega
      · exact ih
    · exact ih
theorem lsi_ok {F : Nat → Nat → Int} {s : Nat} (hF : ∀ a b, 0 ≤ F a b ∧ F a b ≤ 2000) : ∀ i, i ≤ 12 → lsok (lsi F s i)
  | 0, _ => Or.inl ⟨rfl, rfl⟩
  | i + 1, h => lsj_ok hF (lsi_ok hF i (by omega)) (by omega) _ (Nat.le_refl _)
