/-! bitCount. -/
def us (a b : Int32) : Int32 := (a.toUInt32 >>> (b.toUInt32 &&& Int32.toUInt32 31)).toInt32
def bcF (a : Int32) : Int32 :=
  let b := a - (us a 1 &&& 1431655765)
  let c := (b &&& 858993459) + (us b 2 &&& 858993459)
  let e := (c + us c 4) &&& 252645135
  let g := e + us e 8
  let h := g + us g 16
  h &&& 63
def bcC (n : Nat) : Bool := (List.range 64).all fun i => decide (bcF (Int32.ofInt ((n * 64 + i : Nat) : Int)) = Int32.ofInt ((pcn (n * 64 + i) 12 : Nat) : Int))
theorem bc_all : (List.range 64).all bcC = true := by decide +kernel
theorem bc_at {s : Nat} (h : s < 4096) : bcF (Int32.ofInt (s : Int)) = Int32.ofInt ((pcn s 12 : Nat) : Int) := by
  have h1 := List.all_eq_true.mp bc_all (s / 64) (List.mem_range.mpr (by omega))
  have h2 := List.all_eq_true.mp h1 (s % 64) (List.mem_range.mpr (by omega))
  have h3 := of_decide_eq_true h2
  rw [show s / 64 * 64 + s % 64 = s by omega] at h3
  exact h3
theorem k_300 {L d : Nat} {xs : Nat → Int32} {V : Nat → Nat → Int} {J : Nat → Nat → Int64} {tg : Option Nat} {s : Nat} (h : s < 4096) : Runs (GW L xs) (d) 300 (0, [(Value.int (Int32.ofInt (s)))], [], zS (eV (V)) J tg) (some (Value.int (Int32.ofInt (pcn s 12))), zS (eV (V)) J tg) := by
  apply sg_300
  rw [← bc_at h]
  rfl
