/-! Calls that tell: class and reference beside each other. -/
theorem m_179 {L d : Nat} {xs : Nat → Int32} {V : Nat → Nat → Int} {J : Nat → Nat → Int64} {tg : Option Nat} (hR : RNG V) (hA : RA V 1 94) {v : Int} (h1 : (-2147483648 ≤ v ∧ v < 2147483648)) : Runs (GW L xs) (d + 1) 179 (0, [.ref 93, (Value.int (Int32.ofInt (v)))], [], zS (eV (V)) J tg) (some (Value.int (Int32.ofInt (bi (0 ≤ v ∧ v < V 1 0)))), zS (eV (V)) J tg) := by
  have hD : 0 ≤ V 1 0 ∧ V 1 0 ≤ 12 := hR 1 0 (by decide) (by decide)
  have := k_179 (L := L) (xs := xs) (J := J) (tg := tg) (d := d) (V := V) (by rw [hA.1]; exact hD) h1
  rw [hA.1] at this; exact this
theorem m_180 {L d : Nat} {xs : Nat → Int32} {V : Nat → Nat → Int} {J : Nat → Nat → Int64} {tg : Option Nat} (hR : RNG V) (hA : RA V 1 94) {v : Int} (h1 : (-2147483648 ≤ v ∧ v < 2147483648)) : Runs (GW L xs) (d + 1) 180 (0, [.ref 93, (Value.int (Int32.ofInt (v)))], [], zS (eV (V)) J tg) (some (Value.int (Int32.ofInt (bi (12 ≤ v ∧ v < 12 + V 1 1)))), zS (eV (V)) J tg) := by
  have hD : 0 ≤ V 1 1 ∧ V 1 1 ≤ 12 := hR 1 1 (by decide) (by decide)
  have := k_180 (L := L) (xs := xs) (J := J) (tg := tg) (d := d) (V := V) (by rw [hA.2.1]; exact hD) h1
  rw [hA.2.1] at this; exact this
theorem m_181 {L d : Nat} {xs : Nat → Int32} {V : Nat → Nat → Int} {J : Nat → Nat → Int64} {tg : Option Nat} (hR : RNG V) (hA : RA V 1 94) {v : Int} (h1 : (-2147483648 ≤ v ∧ v < 2147483648)) : Runs (GW L xs) (d + 2) 181 (0, [.ref 93, (Value.int (Int32.ofInt (v)))], [], zS (eV (V)) J tg) (some (Value.int (Int32.ofInt (bi (isT V v)))), zS (eV (V)) J tg) := by
  have hD : 0 ≤ V 1 0 ∧ V 1 0 ≤ 12 := hR 1 0 (by decide) (by decide)
  have hT : 0 ≤ V 1 1 ∧ V 1 1 ≤ 12 := hR 1 1 (by decide) (by decide)
  have := k_181 (L := L) (xs := xs) (J := J) (tg := tg) (d := d) (V := V) (by rw [hA.1]; exact hD) (by rw [hA.2.1]; exact hT) h1
  rw [hA.1, hA.2.1] at this; exact this
theorem m_199 {L d : Nat} {xs : Nat → Int32} {V : Nat → Nat → Int} {J : Nat → Nat → Int64} {tg : Option Nat} (hR : RNG V) (hA : RA V 1 94) : Runs (GW L xs) (d) 199 (0, [.ref 93], [], zS (eV (V)) J tg) (some (Value.int (Int32.ofInt ((2 ^ (V 1 1).toNat - 1 : Nat)))), zS (eV (V)) J tg) := by
  have hT : 0 ≤ V 1 1 ∧ V 1 1 ≤ 12 := hR 1 1 (by decide) (by decide)
  have := k_199 (L := L) (xs := xs) (J := J) (tg := tg) (d := d) (V := V) (by rw [hA.2.1]; exact hT)
  rw [hA.2.1] at this; exact this
theorem m_260 {L d : Nat} {xs : Nat → Int32} {V : Nat → Nat → Int} {J : Nat → Nat → Int64} {tg : Option Nat} (hR : RNG V) (hA : RA V 1 94) {v : Int} (h1 : (-2147483648 ≤ v ∧ v < 2147483648)) : Runs (GW L xs) (d + 1) 260 (0, [.ref 93, (Value.int (Int32.ofInt (v)))], [], zS (eV (V)) J tg) (some (Value.int (Int32.ofInt (bi (1 ≤ v ∧ v < (2 ^ (V 1 0).toNat : Nat))))), zS (eV (V)) J tg) := by
  have hD : 0 ≤ V 1 0 ∧ V 1 0 ≤ 12 := hR 1 0 (by decide) (by decide)
  have := k_260 (L := L) (xs := xs) (J := J) (tg := tg) (d := d) (V := V) (by rw [hA.1]; exact hD) h1
  rw [hA.1] at this; exact this
theorem w_nc {α : Type} (f : Nat → Nat → α) (c k : Nat) (v : α) {c' k' : Nat} (h : c' ≠ c) : up2 f c k v c' k' = f c' k' := by rw [w_ne _ _ _ _ h]
