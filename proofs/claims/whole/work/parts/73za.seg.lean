/-! Steps of switches, of copies of arrays, of the parser's target. -/
section RZ
variable {g : PG} {d mid pc : Nat} {L S : List Value} {z : SS}
theorem Runs.swd {x : Int32} {a b : Int} {ts : List Nat} {df : Nat} (hg : step g mid (pc, L, .int x :: S, z) = some (.inl ((if x.toInt < a ∨ b < x.toInt then df else ts.getD (x.toInt - a).toNat 0), L, S, z))) (h : x.toInt < a ∨ b < x.toInt) : step g mid (pc, L, .int x :: S, z) = some (.inl (df, L, S, z)) := by
  rw [hg, if_pos h]
theorem Runs.swj {x j : Int32} {a b : Int} {ts : List Nat} {df t : Nat} (hg : step g mid (pc, L, .int x :: S, z) = some (.inl ((if x.toInt < a ∨ b < x.toInt then df else ts.getD (x.toInt - a).toNat 0), L, S, z))) (h : x = j) (ht : (if j.toInt < a ∨ b < j.toInt then df else ts.getD (j.toInt - a).toNat 0) = t) : step g mid (pc, L, .int x :: S, z) = some (.inl (t, L, S, z)) := by
  rw [hg, h, ht]
theorem up2_up2 {α : Type} (f : Nat → Nat → α) (c k : Nat) (v w : α) : up2 (up2 f c k v) c k w = up2 f c k w := by
  funext c' k'
  unfold up2
  split
  · dsimp only; split <;> simp_all
  · rfl
theorem Runs.tpt {I : Nat → Nat → Int32} {J : Nat → Nat → Int64} {tg : Option Nat} {v idx ln : Nat} (hg : g.1 mid pc = some (.putfield idx, ln)) (h1 : (g.2.1 mid pc).1 = 8) (h2 : (g.2.1 mid pc).2.1 = 6) (h3 : g.2.2.2.2.2.1 8 6 = 3) (hv : v < 114) : step g mid (pc, L, .ref v :: .ref 67 :: S, zS I J tg) = some (.inl (pc + 3, L, S, zS I J (some v))) := by
  have e : fput 3 (zS I J tg) 67 6 (.ref v) = some (zS I J (some v)) := by
    have hv' : v < (zS I J tg).1 := hv
    simp only [fput, if_pos hv']
    simp only [setP, zS, up2_up2]
  have hk : (67 < (zS I J tg).1 ∧ ((zS I J tg).2.2.1 67).1 = 8) := ⟨by show 67 < 114; decide, rfl⟩
  simp only [step, hg, exec1, h1, h2, h3, if_pos hk, e]; rfl
theorem Runs.acp {n dp sp : Int32} {dc sc idx ln : Nat} (hg : g.1 mid pc = some (.invokestatic idx, ln)) (hw : (g.2.1 mid pc).2.2.2 = 5) (hr : catS S ≤ 8) {I : Nat → Nat → Int32} {J : Nat → Nat → Int64} {tg : Option Nat} (h1 : dc < 114 ∧ sc < 114) (h2 : ((KW dc).1 = 100 ∨ (KW dc).1 = 101) ∧ (KW sc).1 = (KW dc).1) (h3 : ¬ sp < 0 ∧ ¬ dp < 0 ∧ ¬ n < 0 ∧ sp.toNatClampNeg + n.toNatClampNeg ≤ (KW sc).2 ∧ dp.toNatClampNeg + n.toNatClampNeg ≤ (KW dc).2) : step g mid (pc, L, .int n :: .int dp :: .ref dc :: .int sp :: .ref sc :: S, zS I J tg) = some (.inl (pc + 3, L, S, zS (upR I dc (va_cpy (I sc) (I dc) sp.toNatClampNeg dp.toNatClampNeg n.toNatClampNeg)) J tg)) := by
  have h5 : ¬ (5 : Nat) = 0 := by omega
  have hk : catS S ≤ 8 ∧ dc < (zS I J tg).1 ∧ sc < (zS I J tg).1 ∧ (((zS I J tg).2.2.1 dc).1 = 100 ∨ ((zS I J tg).2.2.1 dc).1 = 101) ∧ ((zS I J tg).2.2.1 sc).1 = ((zS I J tg).2.2.1 dc).1 ∧ ¬ sp < 0 ∧ ¬ dp < 0 ∧ ¬ n < 0 ∧ sp.toNatClampNeg + n.toNatClampNeg ≤ ((zS I J tg).2.2.1 sc).2 ∧ dp.toNatClampNeg + n.toNatClampNeg ≤ ((zS I J tg).2.2.1 dc).2 := ⟨hr, h1.1, h1.2, h2.1, h2.2, h3⟩
  simp only [step, hg, exec1, hw, if_neg h5, built, if_pos hk]; rfl
end RZ
