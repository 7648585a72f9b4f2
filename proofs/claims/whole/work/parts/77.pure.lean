/-! Cells that queries leave alone; ranges. -/
def core (c : Nat) : Bool := (Nat.ble c 44) || (Nat.ble 46 c && Nat.ble c 70) || Nat.beq c 95 || Nat.beq c 96 || Nat.beq c 100
def co (V : Nat → Nat → Int) (c : Nat) : Nat → Int := match core c with
  | true => V c
  | false => fun _ => 0
def rgL (p : Nat) : Int × Int := match p with
  | 0 => (0, 12)
  | 1 => (0, 12)
  | _ => (0, 99)
def rgW (p : Nat) : Int × Int := match p with
  | 0 => (0, 999)
  | 1 => (0, 99)
  | 2 => (1, 1000)
  | 3 => (0, 1000)
  | 4 => (0, 999)
  | 5 => (0, 60)
  | _ => (-1000, 1000)
def rgI (p : Nat) : Int × Int := match p with
  | 0 => (0, 4)
  | 1 => (-1, 3)
  | 2 => (0, 10)
  | 3 => (0, 8)
  | _ => (0, 99)
/-- the ranges of LOOKS, LANDS and lists, at k of their 22 cells -/
def rgK (k p : Nat) : Int × Int := match k with
  | 0 => rgL p
  | 1 => (0, 179)
  | 2 => (0, 6)
  | 3 => (0, 3)
  | 4 => (-1, 11)
  | 5 => (0, 1)
  | 6 => rgW p
  | 7 => (0, 99)
  | 8 => (0, 4095)
  | 9 => (0, 99)
  | 10 => (0, 5)
  | 11 => (0, 1000)
  | 12 => (0, 5)
  | 13 => (0, 5)
  | 14 => (0, 11)
  | 15 => (-1, 11)
  | 16 => (0, 999)
  | 17 => rgI p
  | 18 => (0, 179)
  | 19 => (0, 11)
  | 20 => (0, 4)
  | _ => (0, 11)
def rg (c p : Nat) : Int × Int := match Nat.ble c 22 with
  | true => rgK (c - 1) p
  | false => rgK (c - 23) p
def RNG (V : Nat → Nat → Int) : Prop := ∀ c p, 1 ≤ c → c ≤ 44 → (rg c p).1 ≤ V c p ∧ V c p ≤ (rg c p).2
theorem RNG.up {V : Nat → Nat → Int} (h : RNG V) {c p : Nat} {z : Int} (hz : (rg c p).1 ≤ z ∧ z ≤ (rg c p).2) : RNG (up2 V c p z) := by
  intro c' p' h1 h2
  unfold up2
  split
  · rename_i e
    subst e
    dsimp only
    split
    · rename_i e; subst e; exact hz
    · exact h _ _ h1 h2
  · exact h _ _ h1 h2
theorem RNG.upn {V : Nat → Nat → Int} (h : RNG V) {c p : Nat} {z : Int} (hc : 44 < c) : RNG (up2 V c p z) := by
  intro c' p' h1 h2
  rw [w_ne _ _ _ _ (by omega)]
  exact h _ _ h1 h2
theorem RNG.fr {V V' : Nat → Nat → Int} (h : RNG V) (e : ∀ c, c ≤ 44 → V' c = V c) : RNG V' := by
  intro c p h1 h2
  rw [e c h2]; exact h c p h1 h2
example {V : Nat → Nat → Int} (h : RNG V) (l : Nat) : 0 ≤ V 3 l ∧ V 3 l ≤ 6 := h 3 l (by decide) (by decide)
example {V : Nat → Nat → Int} (h : RNG V) (l : Nat) : 0 ≤ V 1 4 ∧ V 1 4 ≤ 99 := h 1 4 (by decide) (by decide)
