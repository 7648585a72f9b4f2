/-! The cells that the two constructors make (114 of 23464 slots), and a state of them. -/
def kwT : List (List (Nat × Nat)) := [[(11, 14), (5, 11), (100, 144), (100, 24), (100, 24), (100, 12), (101, 12), (10, 16)],
  [(100, 6), (100, 6), (100, 72), (100, 12), (100, 72), (100, 60), (100, 60), (100, 60)],
  [(100, 60), (100, 60), (4, 8), (100, 10), (100, 24), (100, 6), (100, 8), (5, 11)],
  [(100, 144), (100, 24), (100, 24), (100, 12), (101, 12), (10, 16), (100, 6), (100, 6)],
  [(100, 72), (100, 12), (100, 72), (100, 60), (100, 60), (100, 60), (100, 60), (100, 60)],
  [(4, 8), (100, 10), (100, 24), (100, 6), (100, 8), (100, 300), (202, 5), (2, 7)],
  [(100, 300), (100, 10), (100, 11), (2, 7), (100, 300), (100, 10), (100, 11), (2, 7)],
  [(100, 300), (100, 10), (100, 11), (2, 7), (100, 300), (100, 10), (100, 11), (2, 7)],
  [(100, 300), (100, 10), (100, 11), (8, 16), (102, 300), (100, 300), (7, 5), (100, 576)],
  [(100, 64), (100, 6), (100, 6), (9, 13), (100, 13), (100, 12), (100, 12), (0, 15)],
  [(100, 6), (100, 5376), (100, 4), (1, 9), (100, 6), (100, 6), (3, 9), (100, 96)],
  [(100, 8), (100, 1728), (100, 8), (100, 8), (6, 8), (12, 40), (100, 1200), (100, 1200)],
  [(100, 3200), (100, 64), (100, 64), (100, 12), (100, 300), (100, 160), (100, 160), (100, 12)],
  [(103, 330), (101, 330), (100, 6), (100, 6), (100, 144), (100, 8), (100, 8), (100, 8)],
  [(101, 4096), (101, 13)]]
def KW (c : Nat) : Nat × Nat := (kwT.getD (c / 8) []).getD (c % 8) (0, 0)
def pwT : List (List (List (Option Nat))) := [[[some 1, some 7, some 18, some 23, some 29, some 40, some 46, some 67, some 70, some 75, some 79, some 83, some 86, some 92], [none, none, none, none, none, none, some 2, some 3, some 4, some 5, some 6], [], [], [], [], [], [none, none, none, none, none, none, some 8, some 9, some 10, some 11, some 12, some 13, some 14, some 15, some 16, some 17]],
  [[], [], [], [], [], [], [], []],
  [[], [], [none, none, none, none, some 19, some 20, some 21, some 22], [], [], [], [], [none, none, none, none, none, none, some 24, some 25, some 26, some 27, some 28]],
  [[], [], [], [], [], [none, none, none, none, none, none, some 30, some 31, some 32, some 33, some 34, some 35, some 36, some 37, some 38, some 39], [], []],
  [[], [], [], [], [], [], [], []],
  [[none, none, none, none, some 41, some 42, some 43, some 44], [], [], [], [], [], [some 47, some 51, some 55, some 59, some 63], [some 48, some 49, some 50, some 45]],
  [[], [], [], [some 52, some 53, some 54, some 45], [], [], [], [some 56, some 57, some 58, some 45]],
  [[], [], [], [some 60, some 61, some 62, some 45], [], [], [], [some 64, some 65, some 66, some 45]],
  [[], [], [], [some 68, some 69], [], [], [some 1, some 71, some 72, some 73, some 74], []],
  [[], [], [], [some 1, some 7, some 18, some 70, some 46, some 76, some 77, some 78], [], [], [], [some 1, some 7, some 18, some 70, some 75, some 80, some 81, none, none, none, none, none, none, none, some 82]],
  [[], [], [], [some 18, some 70, some 84, some 85], [], [], [some 7, some 18, some 75, some 87, some 88, some 89, some 90, some 91], []],
  [[], [], [], [], [some 1, some 7, some 75], [some 94, some 95, some 96, some 97, some 98, some 99, some 100, none, none, some 101, none, none, none, none, none, none, none, none, none, none, none, none, some 102, none, none, none, some 103, some 104, some 105, some 106, some 107, some 108, none, some 109, some 110, some 111, none, some 112, some 113], [], []],
  [[], [], [], [], [], [], [], []],
  [[], [], [], [], [], [], [], []],
  [[], []]]
def PW (c k : Nat) : Option Nat := ((pwT.getD (c / 8) []).getD (c % 8) []).getD k none
/-- the state: ints I, longs J, the parser's target tg -/
def zS (I : Nat → Nat → Int32) (J : Nat → Nat → Int64) (tg : Option Nat) : SS := (114, 23464, KW, I, J, up2 PW 67 6 tg)
theorem Lle.k {a : Value} {t u : List Value} (h : Lle t u) : Lle (a :: t) (a :: u) := ⟨Or.inr rfl, h⟩
theorem Lle.u {b : Value} {t u : List Value} (h : Lle t u) : Lle (vU :: t) (b :: u) := ⟨Or.inl rfl, h⟩
theorem Lle.n : Lle [] [] := trivial
section RN
variable {g : PG} {d mid pc : Nat} {L S : List Value} {z : SS} {c i : Nat} {r : Option Value × SS}
theorem Runs.to {c c' : Cfg} (hs : step g mid c = some (.inl c')) (k : Runs g d mid c' r) : Runs g d mid c r := Runs.nx hs k
theorem Runs.as {c c' : Cfg} (e : c = c') (k : Runs g d mid c' r) : Runs g d mid c r := e ▸ k
theorem Runs.brT {c : Cfg} {P : Prop} {inst : Decidable P} {a b : Nat} (hs : step g mid c = some (.inl (@ite Nat P inst a b, L, S, z))) (hp : P) (k : Runs g d mid (a, L, S, z) r) : Runs g d mid c r := by
  rw [if_pos hp] at hs
  exact Runs.nx hs k
theorem Runs.brF {c : Cfg} {P : Prop} {inst : Decidable P} {a b : Nat} (hs : step g mid c = some (.inl (@ite Nat P inst a b, L, S, z))) (hp : ¬ P) (k : Runs g d mid (b, L, S, z) r) : Runs g d mid c r := by
  rw [if_neg hp] at hs
  exact Runs.nx hs k
theorem Runs.ild {j : Int32} (hg : g.1 mid pc = some (.iaload, 1)) (hc : c < z.1) (hk : (z.2.2.1 c).1 = 100) (hi : ¬ (j < 0 ∨ (z.2.2.1 c).2 ≤ j.toNatClampNeg)) : step g mid (pc, L, .int j :: .ref c :: S, z) = some (.inl (pc + 1, L, .int (z.2.2.2.1 c j.toNatClampNeg) :: S, z)) := by
  simp only [step, hg, exec1, ald, if_neg hi, if_pos hc, if_pos hk]; rfl
theorem Runs.zld {j : Int32} (hg : g.1 mid pc = some (.baload, 1)) (hc : c < z.1) (hk : (z.2.2.1 c).1 = 101) (hi : ¬ (j < 0 ∨ (z.2.2.1 c).2 ≤ j.toNatClampNeg)) : step g mid (pc, L, .int j :: .ref c :: S, z) = some (.inl (pc + 1, L, .int (z.2.2.2.1 c j.toNatClampNeg) :: S, z)) := by
  simp only [step, hg, exec1, ald, if_neg hi, if_pos hc, if_pos (Or.inl hk : (z.2.2.1 c).1 = 101 ∨ (z.2.2.1 c).1 = 102)]; rfl
theorem Runs.bld {j : Int32} (hg : g.1 mid pc = some (.baload, 1)) (hc : c < z.1) (hk : (z.2.2.1 c).1 = 102) (hi : ¬ (j < 0 ∨ (z.2.2.1 c).2 ≤ j.toNatClampNeg)) : step g mid (pc, L, .int j :: .ref c :: S, z) = some (.inl (pc + 1, L, .int (z.2.2.2.1 c j.toNatClampNeg) :: S, z)) := by
  simp only [step, hg, exec1, ald, if_neg hi, if_pos hc, if_pos (Or.inr hk : (z.2.2.1 c).1 = 101 ∨ (z.2.2.1 c).1 = 102)]; rfl
theorem Runs.lld {j : Int32} (hg : g.1 mid pc = some (.laload, 1)) (hc : c < z.1) (hk : (z.2.2.1 c).1 = 103) (hi : ¬ (j < 0 ∨ (z.2.2.1 c).2 ≤ j.toNatClampNeg)) : step g mid (pc, L, .int j :: .ref c :: S, z) = some (.inl (pc + 1, L, .long (z.2.2.2.2.1 c j.toNatClampNeg) :: S, z)) := by
  simp only [step, hg, exec1, ald, if_neg hi, if_pos hc, if_pos hk]; rfl
theorem Runs.sld {j : Int32} {k : Nat} (hg : g.1 mid pc = some (.iaload, 1)) (hk : k < 2) (hi : ¬ (j < 0 ∨ (g.2.2.2.2.2.2 k).1 ≤ j.toNatClampNeg)) : step g mid (pc, L, .int j :: .retAddr k :: S, z) = some (.inl (pc + 1, L, .int ((g.2.2.2.2.2.2 k).2 j.toNatClampNeg) :: S, z)) := by
  simp only [step, hg, exec1, ald, if_neg hi, if_pos (And.intro hk trivial : k < 2 ∧ True)]; rfl
theorem Runs.ist {j x : Int32} (hg : g.1 mid pc = some (.iastore, 1)) (hc : c < z.1) (hk : (z.2.2.1 c).1 = 100) (hi : ¬ (j < 0 ∨ (z.2.2.1 c).2 ≤ j.toNatClampNeg)) : step g mid (pc, L, .int x :: .int j :: .ref c :: S, z) = some (.inl (pc + 1, L, S, setI z c j.toNatClampNeg x)) := by
  simp only [step, hg, exec1, ast, if_neg hi, if_pos hc, if_pos hk]; rfl
theorem Runs.zst {j x : Int32} (hg : g.1 mid pc = some (.bastore, 1)) (hc : c < z.1) (hk : (z.2.2.1 c).1 = 101) (hi : ¬ (j < 0 ∨ (z.2.2.1 c).2 ≤ j.toNatClampNeg)) (hx : x = 0 ∨ x = 1) : step g mid (pc, L, .int x :: .int j :: .ref c :: S, z) = some (.inl (pc + 1, L, S, setI z c j.toNatClampNeg x)) := by
  simp only [step, hg, exec1, ast, if_neg hi, if_pos hc, if_pos hk, if_pos hx]; rfl
theorem Runs.bst {j x : Int32} (hg : g.1 mid pc = some (.bastore, 1)) (hc : c < z.1) (hk : (z.2.2.1 c).1 = 102) (hi : ¬ (j < 0 ∨ (z.2.2.1 c).2 ≤ j.toNatClampNeg)) : step g mid (pc, L, .int x :: .int j :: .ref c :: S, z) = some (.inl (pc + 1, L, S, setI z c j.toNatClampNeg x.toInt8.toInt32)) := by
  have h1 : ¬ (z.2.2.1 c).1 = 101 := by omega
  simp only [step, hg, exec1, ast, if_neg hi, if_pos hc, if_neg h1, if_pos hk]; rfl
theorem Runs.lst {j : Int32} {x : Int64} (hg : g.1 mid pc = some (.lastore, 1)) (hc : c < z.1) (hk : (z.2.2.1 c).1 = 103) (hi : ¬ (j < 0 ∨ (z.2.2.1 c).2 ≤ j.toNatClampNeg)) : step g mid (pc, L, .long x :: .int j :: .ref c :: S, z) = some (.inl (pc + 1, L, S, setJ z c j.toNatClampNeg x)) := by
  simp only [step, hg, exec1, ast, if_neg hi, if_pos (And.intro hc (And.intro trivial hk) : c < z.1 ∧ True ∧ (z.2.2.1 c).1 = 103)]; rfl
theorem Runs.zpt {x : Int32} {idx ln : Nat} (hg : g.1 mid pc = some (.putfield idx, ln)) (hc : c < z.1) (hk : (z.2.2.1 c).1 = (g.2.1 mid pc).1) (ht : g.2.2.2.2.2.1 (g.2.1 mid pc).1 (g.2.1 mid pc).2.1 = 1) (hx : x = 0 ∨ x = 1) : step g mid (pc, L, .int x :: .ref c :: S, z) = some (.inl (pc + 3, L, S, setI z c (g.2.1 mid pc).2.1 x)) := by
  simp only [step, hg, exec1, if_pos (And.intro hc hk), ht, fput, if_pos hx]; rfl
theorem Runs.chr {j : Int32} {idx ln : Nat} (hg : g.1 mid pc = some (.invokevirtual idx, ln)) (hw : (g.2.1 mid pc).2.2.2 = 7) (hr : catS S ≤ 8) (hi : ¬ (j < 0 ∨ (g.2.2.2.2.2.2 2).1 ≤ j.toNatClampNeg)) : step g mid (pc, L, .int j :: .retAddr 2 :: S, z) = some (.inl (pc + 3, L, .int ((g.2.2.2.2.2.2 2).2 j.toNatClampNeg) :: S, z)) := by
  have h7 : ¬ (7 : Nat) = 0 := by omega
  simp only [step, hg, exec1, hw, if_neg h7, built, if_pos (And.intro hr hi)]; rfl
theorem Runs.zrt {x : Int32} (hg : g.1 mid pc = some (.ireturn, 1)) (ht : (g.2.2.2.2.1 mid).2 = 2) (hx : x = 0 ∨ x = 1) : Runs g d mid (pc, L, [.int x], z) (some (.int x), z) := by
  refine Runs.rt ?_
  have h : (g.2.2.2.2.1 mid).2 = 1 ∨ (g.2.2.2.2.1 mid).2 = 2 ∧ (x = 0 ∨ x = 1) := Or.inr ⟨ht, hx⟩
  simp only [step, hg, exec1, if_pos h]
end RN
