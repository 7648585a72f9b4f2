-- X12_readRow 
theorem sg_273 {L d : Nat} {xs : Nat → Int32} (I : Nat → Nat → Int32) (J : Nat → Nat → Int64) (tg : Option Nat) (a1 : Int32) (a2 : Int32) {r : Option Value × SS} (h : (Runs (GW L xs) (d + 1) 273 (2, [.ref 93, .int a1, .int a2, .int 0], [], (zS I J tg)) r)) : Runs (GW L xs) (d + 1) 273 (0, [.ref 93, .int a1, .int a2, vU], [], (zS I J tg)) r := by
  refine Runs.sN 2 (c' := (2, [.ref 93, .int a1, .int a2, .int 0], [], (zS I J tg))) rfl ?_
  exact h
theorem sg_273_2 {L d : Nat} {xs : Nat → Int32} (I : Nat → Nat → Int32) (J : Nat → Nat → Int64) (tg : Option Nat) (x1 : Int32) (x2 : Int32) (x3 : Int32) {r : Option Value × SS} (h : ((if (I 94 6) ≤ x3 then (Runs (GW L xs) (d + 1) 273 (48, [.ref 93, .int x1, .int x2, .int 1], [], (zS I J tg)) r) else (¬ (x3 < 0 ∨ 8 ≤ (x3).toNatClampNeg) ∧ ¬ ((880 + (I 109 ((x3).toNatClampNeg))) < 0 ∨ 1200 ≤ (880 + (I 109 ((x3).toNatClampNeg))).toNatClampNeg) ∧ ∃ (v1 : Int32) (I2 : Nat → Nat → Int32) (J3 : Nat → Nat → Int64), Runs (GW L xs) d 205 (0, [.ref 93, .int (I 94 ((880 + (I 109 ((x3).toNatClampNeg))).toNatClampNeg)), .int x1, .int x2], [], (zS I J tg)) ((some (.int v1)), (zS I2 J3 tg)) ∧ ¬ (x3 < 0 ∨ 8 ≤ (x3).toNatClampNeg) ∧ Runs (GW L xs) (d + 1) 273 (2, [.ref 93, .int x1, .int x2, .int (x3 + 1)], [], (zS (up2 I2 110 ((x3).toNatClampNeg) v1) J3 tg)) r)))) : Runs (GW L xs) (d + 1) 273 (2, [.ref 93, .int x1, .int x2, .int x3], [], (zS I J tg)) r := by
  refine Runs.sN 5 (c' := (10, [.ref 93, .int x1, .int x2, .int x3], [.int (I 94 6), .int x3], (zS I J tg))) rfl ?_
  by_cases c4 : (I 94 6) ≤ x3
  · rw [if_pos c4] at h
    refine Runs.brT (P := (I 94 6) ≤ x3) (a := 46) (b := 13) (L := [.ref 93, .int x1, .int x2, .int x3]) (S := []) (z := (zS I J tg)) rfl c4 ?_
    refine Runs.sN 2 (c' := (48, [.ref 93, .int x1, .int x2, .int 1], [], (zS I J tg))) rfl ?_
    exact h
  · rw [if_neg c4] at h
    refine Runs.brF (P := (I 94 6) ≤ x3) (a := 46) (b := 13) (L := [.ref 93, .int x1, .int x2, .int x3]) (S := []) (z := (zS I J tg)) rfl c4 ?_
    refine Runs.sN 10 (c' := (31, [.ref 93, .int x1, .int x2, .int x3], [.int x3, .ref 109, .int 880, .ref 94, .ref 93, .int x3, .ref 110], (zS I J tg))) rfl ?_
    obtain ⟨c5, h⟩ := h
    refine Runs.to (c' := (32, [.ref 93, .int x1, .int x2, .int x3], [.int (I 109 ((x3).toNatClampNeg)), .int 880, .ref 94, .ref 93, .int x3, .ref 110], (zS I J tg))) (Runs.ild rfl (show (109 : Nat) < 114 by decide) rfl c5) ?_
    refine Runs.sN 1 (c' := (33, [.ref 93, .int x1, .int x2, .int x3], [.int (880 + (I 109 ((x3).toNatClampNeg))), .ref 94, .ref 93, .int x3, .ref 110], (zS I J tg))) rfl ?_
    obtain ⟨c6, h⟩ := h
    refine Runs.to (c' := (34, [.ref 93, .int x1, .int x2, .int x3], [.int (I 94 ((880 + (I 109 ((x3).toNatClampNeg))).toNatClampNeg)), .ref 93, .int x3, .ref 110], (zS I J tg))) (Runs.ild rfl (show (94 : Nat) < 114 by decide) rfl c6) ?_
    refine Runs.sN 2 (c' := (36, [.ref 93, .int x1, .int x2, .int x3], [.int x2, .int x1, .int (I 94 ((880 + (I 109 ((x3).toNatClampNeg))).toNatClampNeg)), .ref 93, .int x3, .ref 110], (zS I J tg))) rfl ?_
    obtain ⟨v1, I2, J3, c7, h⟩ := h
    refine Runs.cl (cm := 205) (as := [.ref 93, .int (I 94 ((880 + (I 109 ((x3).toNatClampNeg))).toNatClampNeg)), .int x1, .int x2]) (rest := [.int x3, .ref 110]) (r1 := ((some (.int v1)), (zS I2 J3 tg))) rfl (Nat.le_of_ble_eq_true rfl) c7 ?_
    refine Runs.as (c' := (39, [.ref 93, .int x1, .int x2, .int x3], [.int v1, .int x3, .ref 110], (zS I2 J3 tg))) rfl ?_
    obtain ⟨c8, h⟩ := h
    refine Runs.to (c' := (40, [.ref 93, .int x1, .int x2, .int x3], [], (zS (up2 I2 110 ((x3).toNatClampNeg) v1) J3 tg))) (Runs.ist rfl (show (110 : Nat) < 114 by decide) rfl c8) ?_
    refine Runs.sN 2 (c' := (2, [.ref 93, .int x1, .int x2, .int (x3 + 1)], [], (zS (up2 I2 110 ((x3).toNatClampNeg) v1) J3 tg))) rfl ?_
    exact h
theorem sg_273_48 {L d : Nat} {xs : Nat → Int32} (I : Nat → Nat → Int32) (J : Nat → Nat → Int64) (tg : Option Nat) (x1 : Int32) (x2 : Int32) (x3 : Int32) {r : Option Value × SS} (h : ((if (I 94 6) ≤ x3 then (r = (none, (zS I J tg))) else (¬ (x3 < 0 ∨ 8 ≤ (x3).toNatClampNeg) ∧ ¬ ((880 + (I 109 ((x3).toNatClampNeg))) < 0 ∨ 1200 ≤ (880 + (I 109 ((x3).toNatClampNeg))).toNatClampNeg) ∧ ∃ (I1 : Nat → Nat → Int32) (J2 : Nat → Nat → Int64), Runs (GW L xs) d 203 (0, [.ref 93, .int (I 94 ((880 + (I 109 ((x3).toNatClampNeg))).toNatClampNeg)), .int x2, vU], [], (zS I J tg)) (none, (zS I1 J2 tg)) ∧ ¬ ((690 + x1) < 0 ∨ 1200 ≤ (690 + x1).toNatClampNeg) ∧ ¬ ((x3 - 1) < 0 ∨ 8 ≤ (x3 - 1).toNatClampNeg) ∧ ∃ (v3 : Int32) (I4 : Nat → Nat → Int32) (J5 : Nat → Nat → Int64), Runs (GW L xs) d 272 (0, [.ref 93, .int (I1 110 ((x3 - 1).toNatClampNeg))], [], (zS I1 J2 tg)) ((some (.int v3)), (zS I4 J5 tg)) ∧ (if (I4 94 6) ≤ (x3 + 1) then (∃ (v6 : Int32) (I7 : Nat → Nat → Int32) (J8 : Nat → Nat → Int64), Runs (GW L xs) d 204 (0, [.ref 93, .int (I1 94 ((690 + x1).toNatClampNeg)), .int v3, .int 0, vU, vU, vU, vU, vU], [], (zS I4 J5 tg)) ((some (.int v6)), (zS I7 J8 tg)) ∧ ¬ (x3 < 0 ∨ 8 ≤ (x3).toNatClampNeg) ∧ Runs (GW L xs) (d + 1) 273 (48, [.ref 93, .int x1, .int x2, .int (x3 + 1)], [], (zS (up2 I7 110 ((x3).toNatClampNeg) v6) J8 tg)) r) else (¬ ((x3 + 1) < 0 ∨ 8 ≤ (x3 + 1).toNatClampNeg) ∧ ∃ (v9 : Int32) (I10 : Nat → Nat → Int32) (J11 : Nat → Nat → Int64), Runs (GW L xs) d 272 (0, [.ref 93, .int (I4 110 ((x3 + 1).toNatClampNeg))], [], (zS I4 J5 tg)) ((some (.int v9)), (zS I10 J11 tg)) ∧ ∃ (v12 : Int32) (I13 : Nat → Nat → Int32) (J14 : Nat → Nat → Int64), Runs (GW L xs) d 204 (0, [.ref 93, .int (I1 94 ((690 + x1).toNatClampNeg)), .int v3, .int v9, vU, vU, vU, vU, vU], [], (zS I10 J11 tg)) ((some (.int v12)), (zS I13 J14 tg)) ∧ ¬ (x3 < 0 ∨ 8 ≤ (x3).toNatClampNeg) ∧ Runs (GW L xs) (d + 1) 273 (48, [.ref 93, .int x1, .int x2, .int (x3 + 1)], [], (zS (up2 I13 110 ((x3).toNatClampNeg) v12) J14 tg)) r)))))) : Runs (GW L xs) (d + 1) 273 (48, [.ref 93, .int x1, .int x2, .int x3], [], (zS I J tg)) r := by
  refine Runs.sN 5 (c' := (56, [.ref 93, .int x1, .int x2, .int x3], [.int (I 94 6), .int x3], (zS I J tg))) rfl ?_
  by_cases c15 : (I 94 6) ≤ x3
  · rw [if_pos c15] at h
    refine Runs.brT (P := (I 94 6) ≤ x3) (a := 146) (b := 59) (L := [.ref 93, .int x1, .int x2, .int x3]) (S := []) (z := (zS I J tg)) rfl c15 ?_
    subst h
    exact Runs.rt rfl
  · rw [if_neg c15] at h
    refine Runs.brF (P := (I 94 6) ≤ x3) (a := 146) (b := 59) (L := [.ref 93, .int x1, .int x2, .int x3]) (S := []) (z := (zS I J tg)) rfl c15 ?_
    refine Runs.sN 7 (c' := (72, [.ref 93, .int x1, .int x2, .int x3], [.int x3, .ref 109, .int 880, .ref 94, .ref 93], (zS I J tg))) rfl ?_
    obtain ⟨c16, h⟩ := h
    refine Runs.to (c' := (73, [.ref 93, .int x1, .int x2, .int x3], [.int (I 109 ((x3).toNatClampNeg)), .int 880, .ref 94, .ref 93], (zS I J tg))) (Runs.ild rfl (show (109 : Nat) < 114 by decide) rfl c16) ?_
    refine Runs.sN 1 (c' := (74, [.ref 93, .int x1, .int x2, .int x3], [.int (880 + (I 109 ((x3).toNatClampNeg))), .ref 94, .ref 93], (zS I J tg))) rfl ?_
    obtain ⟨c17, h⟩ := h
    refine Runs.to (c' := (75, [.ref 93, .int x1, .int x2, .int x3], [.int (I 94 ((880 + (I 109 ((x3).toNatClampNeg))).toNatClampNeg)), .ref 93], (zS I J tg))) (Runs.ild rfl (show (94 : Nat) < 114 by decide) rfl c17) ?_
    refine Runs.sN 1 (c' := (76, [.ref 93, .int x1, .int x2, .int x3], [.int x2, .int (I 94 ((880 + (I 109 ((x3).toNatClampNeg))).toNatClampNeg)), .ref 93], (zS I J tg))) rfl ?_
    obtain ⟨I1, J2, c18, h⟩ := h
    refine Runs.cl (cm := 203) (as := [.ref 93, .int (I 94 ((880 + (I 109 ((x3).toNatClampNeg))).toNatClampNeg)), .int x2]) (rest := []) (r1 := (none, (zS I1 J2 tg))) rfl (Nat.le_of_ble_eq_true rfl) c18 ?_
    refine Runs.as (c' := (79, [.ref 93, .int x1, .int x2, .int x3], [], (zS I1 J2 tg))) rfl ?_
    refine Runs.sN 9 (c' := (94, [.ref 93, .int x1, .int x2, .int x3], [.int (690 + x1), .ref 94, .ref 93, .int x3, .ref 110], (zS I1 J2 tg))) rfl ?_
    obtain ⟨c19, h⟩ := h
    refine Runs.to (c' := (95, [.ref 93, .int x1, .int x2, .int x3], [.int (I1 94 ((690 + x1).toNatClampNeg)), .ref 93, .int x3, .ref 110], (zS I1 J2 tg))) (Runs.ild rfl (show (94 : Nat) < 114 by decide) rfl c19) ?_
    refine Runs.sN 6 (c' := (103, [.ref 93, .int x1, .int x2, .int x3], [.int (x3 - 1), .ref 110, .ref 93, .int (I1 94 ((690 + x1).toNatClampNeg)), .ref 93, .int x3, .ref 110], (zS I1 J2 tg))) rfl ?_
    obtain ⟨c20, h⟩ := h
    refine Runs.to (c' := (104, [.ref 93, .int x1, .int x2, .int x3], [.int (I1 110 ((x3 - 1).toNatClampNeg)), .ref 93, .int (I1 94 ((690 + x1).toNatClampNeg)), .ref 93, .int x3, .ref 110], (zS I1 J2 tg))) (Runs.ild rfl (show (110 : Nat) < 114 by decide) rfl c20) ?_
    obtain ⟨v3, I4, J5, c21, h⟩ := h
    refine Runs.cl (cm := 272) (as := [.ref 93, .int (I1 110 ((x3 - 1).toNatClampNeg))]) (rest := [.int (I1 94 ((690 + x1).toNatClampNeg)), .ref 93, .int x3, .ref 110]) (r1 := ((some (.int v3)), (zS I4 J5 tg))) rfl (Nat.le_of_ble_eq_true rfl) c21 ?_
    refine Runs.as (c' := (107, [.ref 93, .int x1, .int x2, .int x3], [.int v3, .int (I1 94 ((690 + x1).toNatClampNeg)), .ref 93, .int x3, .ref 110], (zS I4 J5 tg))) rfl ?_
    refine Runs.sN 7 (c' := (117, [.ref 93, .int x1, .int x2, .int x3], [.int (I4 94 6), .int (x3 + 1), .int v3, .int (I1 94 ((690 + x1).toNatClampNeg)), .ref 93, .int x3, .ref 110], (zS I4 J5 tg))) rfl ?_
    by_cases c22 : (I4 94 6) ≤ (x3 + 1)
    · rw [if_pos c22] at h
      refine Runs.brT (P := (I4 94 6) ≤ (x3 + 1)) (a := 135) (b := 120) (L := [.ref 93, .int x1, .int x2, .int x3]) (S := [.int v3, .int (I1 94 ((690 + x1).toNatClampNeg)), .ref 93, .int x3, .ref 110]) (z := (zS I4 J5 tg)) rfl c22 ?_
      refine Runs.sN 1 (c' := (136, [.ref 93, .int x1, .int x2, .int x3], [.int 0, .int v3, .int (I1 94 ((690 + x1).toNatClampNeg)), .ref 93, .int x3, .ref 110], (zS I4 J5 tg))) rfl ?_
      obtain ⟨v6, I7, J8, c23, h⟩ := h
      refine Runs.cl (cm := 204) (as := [.ref 93, .int (I1 94 ((690 + x1).toNatClampNeg)), .int v3, .int 0]) (rest := [.int x3, .ref 110]) (r1 := ((some (.int v6)), (zS I7 J8 tg))) rfl (Nat.le_of_ble_eq_true rfl) c23 ?_
      refine Runs.as (c' := (139, [.ref 93, .int x1, .int x2, .int x3], [.int v6, .int x3, .ref 110], (zS I7 J8 tg))) rfl ?_
      obtain ⟨c24, h⟩ := h
      refine Runs.to (c' := (140, [.ref 93, .int x1, .int x2, .int x3], [], (zS (up2 I7 110 ((x3).toNatClampNeg) v6) J8 tg))) (Runs.ist rfl (show (110 : Nat) < 114 by decide) rfl c24) ?_
      refine Runs.sN 2 (c' := (48, [.ref 93, .int x1, .int x2, .int (x3 + 1)], [], (zS (up2 I7 110 ((x3).toNatClampNeg) v6) J8 tg))) rfl ?_
      exact h
    · rw [if_neg c22] at h
      refine Runs.brF (P := (I4 94 6) ≤ (x3 + 1)) (a := 135) (b := 120) (L := [.ref 93, .int x1, .int x2, .int x3]) (S := [.int v3, .int (I1 94 ((690 + x1).toNatClampNeg)), .ref 93, .int x3, .ref 110]) (z := (zS I4 J5 tg)) rfl c22 ?_
      refine Runs.sN 6 (c' := (128, [.ref 93, .int x1, .int x2, .int x3], [.int (x3 + 1), .ref 110, .ref 93, .int v3, .int (I1 94 ((690 + x1).toNatClampNeg)), .ref 93, .int x3, .ref 110], (zS I4 J5 tg))) rfl ?_
      obtain ⟨c25, h⟩ := h
      refine Runs.to (c' := (129, [.ref 93, .int x1, .int x2, .int x3], [.int (I4 110 ((x3 + 1).toNatClampNeg)), .ref 93, .int v3, .int (I1 94 ((690 + x1).toNatClampNeg)), .ref 93, .int x3, .ref 110], (zS I4 J5 tg))) (Runs.ild rfl (show (110 : Nat) < 114 by decide) rfl c25) ?_
      obtain ⟨v9, I10, J11, c26, h⟩ := h
      refine Runs.cl (cm := 272) (as := [.ref 93, .int (I4 110 ((x3 + 1).toNatClampNeg))]) (rest := [.int v3, .int (I1 94 ((690 + x1).toNatClampNeg)), .ref 93, .int x3, .ref 110]) (r1 := ((some (.int v9)), (zS I10 J11 tg))) rfl (Nat.le_of_ble_eq_true rfl) c26 ?_
      refine Runs.as (c' := (132, [.ref 93, .int x1, .int x2, .int x3], [.int v9, .int v3, .int (I1 94 ((690 + x1).toNatClampNeg)), .ref 93, .int x3, .ref 110], (zS I10 J11 tg))) rfl ?_
      refine Runs.sN 1 (c' := (136, [.ref 93, .int x1, .int x2, .int x3], [.int v9, .int v3, .int (I1 94 ((690 + x1).toNatClampNeg)), .ref 93, .int x3, .ref 110], (zS I10 J11 tg))) rfl ?_
      obtain ⟨v12, I13, J14, c27, h⟩ := h
      refine Runs.cl (cm := 204) (as := [.ref 93, .int (I1 94 ((690 + x1).toNatClampNeg)), .int v3, .int v9]) (rest := [.int x3, .ref 110]) (r1 := ((some (.int v12)), (zS I13 J14 tg))) rfl (Nat.le_of_ble_eq_true rfl) c27 ?_
      refine Runs.as (c' := (139, [.ref 93, .int x1, .int x2, .int x3], [.int v12, .int x3, .ref 110], (zS I13 J14 tg))) rfl ?_
      obtain ⟨c28, h⟩ := h
      refine Runs.to (c' := (140, [.ref 93, .int x1, .int x2, .int x3], [], (zS (up2 I13 110 ((x3).toNatClampNeg) v12) J14 tg))) (Runs.ist rfl (show (110 : Nat) < 114 by decide) rfl c28) ?_
      refine Runs.sN 2 (c' := (48, [.ref 93, .int x1, .int x2, .int (x3 + 1)], [], (zS (up2 I13 110 ((x3).toNatClampNeg) v12) J14 tg))) rfl ?_
      exact h
-- X12_asHung 
theorem sg_274 {L d : Nat} {xs : Nat → Int32} (I : Nat → Nat → Int32) (J : Nat → Nat → Int64) (tg : Option Nat) {r : Option Value × SS} (h : (Runs (GW L xs) d 274 (2, [.ref 93, .int 0], [], (zS I J tg)) r)) : Runs (GW L xs) d 274 (0, [.ref 93, vU], [], (zS I J tg)) r := by
  refine Runs.sN 2 (c' := (2, [.ref 93, .int 0], [], (zS I J tg))) rfl ?_
  exact h
theorem sg_274_2 {L d : Nat} {xs : Nat → Int32} (I : Nat → Nat → Int32) (J : Nat → Nat → Int64) (tg : Option Nat) (x1 : Int32) {r : Option Value × SS} (h : ((if 8 ≤ x1 then (r = (none, (zS I J tg))) else (¬ (x1 < 0 ∨ 8 ≤ (x1).toNatClampNeg) ∧ Runs (GW L xs) d 274 (2, [.ref 93, .int (x1 + 1)], [], (zS (up2 I 109 ((x1).toNatClampNeg) x1) J tg)) r)))) : Runs (GW L xs) d 274 (2, [.ref 93, .int x1], [], (zS I J tg)) r := by
  refine Runs.sN 2 (c' := (5, [.ref 93, .int x1], [.int 8, .int x1], (zS I J tg))) rfl ?_
  by_cases c1 : 8 ≤ x1
  · rw [if_pos c1] at h
    refine Runs.brT (P := 8 ≤ x1) (a := 21) (b := 8) (L := [.ref 93, .int x1]) (S := []) (z := (zS I J tg)) rfl c1 ?_
    subst h
    exact Runs.rt rfl
  · rw [if_neg c1] at h
    refine Runs.brF (P := 8 ≤ x1) (a := 21) (b := 8) (L := [.ref 93, .int x1]) (S := []) (z := (zS I J tg)) rfl c1 ?_
    refine Runs.sN 4 (c' := (14, [.ref 93, .int x1], [.int x1, .int x1, .ref 109], (zS I J tg))) rfl ?_
    obtain ⟨c2, h⟩ := h
    refine Runs.to (c' := (15, [.ref 93, .int x1], [], (zS (up2 I 109 ((x1).toNatClampNeg) x1) J tg))) (Runs.ist rfl (show (109 : Nat) < 114 by decide) rfl c2) ?_
    refine Runs.sN 2 (c' := (2, [.ref 93, .int (x1 + 1)], [], (zS (up2 I 109 ((x1).toNatClampNeg) x1) J tg))) rfl ?_
    exact h
-- X12_among 
theorem sg_275 {L d : Nat} {xs : Nat → Int32} (I : Nat → Nat → Int32) (J : Nat → Nat → Int64) (tg : Option Nat) (a1 : Int32) (a2 : Int32) (a3 : Int32) {r : Option Value × SS} (h : (∃ (v14 : Int32) (I15 : Nat → Nat → Int32) (J16 : Nat → Nat → Int64), Runs (GW L xs) d 177 (0, [.int a1, .int 0, .int ((I 94 6) - 1)], [], (zS I J tg)) ((some (.int v14)), (zS I15 J16 tg)) ∧ (if v14 = 0 then (r = (some (.int (-1)), (zS I15 J16 tg))) else (∃ (v17 : Int32) (I18 : Nat → Nat → Int32) (J19 : Nat → Nat → Int64), Runs (GW L xs) d 182 (0, [.int a2], [], (zS I15 J16 tg)) ((some (.int v17)), (zS I18 J19 tg)) ∧ (if v17 = 0 then (r = (some (.int (-1)), (zS I18 J19 tg))) else (∃ (v20 : Int32) (I21 : Nat → Nat → Int32) (J22 : Nat → Nat → Int64), Runs (GW L xs) d 182 (0, [.int a3], [], (zS I18 J19 tg)) ((some (.int v20)), (zS I21 J22 tg)) ∧ (if v20 = 0 then (r = (some (.int (-1)), (zS I21 J22 tg))) else (∃ (I23 : Nat → Nat → Int32) (J24 : Nat → Nat → Int64), Runs (GW L xs) d 274 (0, [.ref 93, vU], [], (zS I21 J22 tg)) (none, (zS I23 J24 tg)) ∧ ∃ (I25 : Nat → Nat → Int32) (J26 : Nat → Nat → Int64), Runs (GW L xs) d 273 (0, [.ref 93, .int a2, .int a3, vU], [], (zS I23 J24 tg)) (none, (zS I25 J26 tg)) ∧ ¬ (a1 < 0 ∨ 8 ≤ (a1).toNatClampNeg) ∧ r = (some (.int (I25 110 ((a1).toNatClampNeg))), (zS I25 J26 tg)))))))))) : Runs (GW L xs) (d + 1) 275 (0, [.ref 93, .int a1, .int a2, .int a3], [], (zS I J tg)) r := by
  refine Runs.sN 8 (c' := (11, [.ref 93, .int a1, .int a2, .int a3], [.int ((I 94 6) - 1), .int 0, .int a1], (zS I J tg))) rfl ?_
  obtain ⟨v14, I15, J16, c27, h⟩ := h
  refine Runs.cl (cm := 177) (as := [.int a1, .int 0, .int ((I 94 6) - 1)]) (rest := []) (r1 := ((some (.int v14)), (zS I15 J16 tg))) rfl (Nat.le_of_ble_eq_true rfl) c27 ?_
  refine Runs.as (c' := (14, [.ref 93, .int a1, .int a2, .int a3], [.int v14], (zS I15 J16 tg))) rfl ?_
  by_cases c28 : v14 = 0
  · rw [if_pos c28] at h
    refine Runs.brT (P := v14 = 0) (a := 31) (b := 17) (L := [.ref 93, .int a1, .int a2, .int a3]) (S := []) (z := (zS I15 J16 tg)) rfl c28 ?_
    refine Runs.sN 1 (c' := (32, [.ref 93, .int a1, .int a2, .int a3], [.int (-1)], (zS I15 J16 tg))) rfl ?_
    subst h
    exact Runs.rt rfl
  · rw [if_neg c28] at h
    refine Runs.brF (P := v14 = 0) (a := 31) (b := 17) (L := [.ref 93, .int a1, .int a2, .int a3]) (S := []) (z := (zS I15 J16 tg)) rfl c28 ?_
    refine Runs.sN 1 (c' := (18, [.ref 93, .int a1, .int a2, .int a3], [.int a2], (zS I15 J16 tg))) rfl ?_
    obtain ⟨v17, I18, J19, c29, h⟩ := h
    refine Runs.cl (cm := 182) (as := [.int a2]) (rest := []) (r1 := ((some (.int v17)), (zS I18 J19 tg))) rfl (Nat.le_of_ble_eq_true rfl) c29 ?_
    refine Runs.as (c' := (21, [.ref 93, .int a1, .int a2, .int a3], [.int v17], (zS I18 J19 tg))) rfl ?_
    by_cases c30 : v17 = 0
    · rw [if_pos c30] at h
      refine Runs.brT (P := v17 = 0) (a := 31) (b := 24) (L := [.ref 93, .int a1, .int a2, .int a3]) (S := []) (z := (zS I18 J19 tg)) rfl c30 ?_
      refine Runs.sN 1 (c' := (32, [.ref 93, .int a1, .int a2, .int a3], [.int (-1)], (zS I18 J19 tg))) rfl ?_
      subst h
      exact Runs.rt rfl
    · rw [if_neg c30] at h
      refine Runs.brF (P := v17 = 0) (a := 31) (b := 24) (L := [.ref 93, .int a1, .int a2, .int a3]) (S := []) (z := (zS I18 J19 tg)) rfl c30 ?_
      refine Runs.sN 1 (c' := (25, [.ref 93, .int a1, .int a2, .int a3], [.int a3], (zS I18 J19 tg))) rfl ?_
      obtain ⟨v20, I21, J22, c31, h⟩ := h
      refine Runs.cl (cm := 182) (as := [.int a3]) (rest := []) (r1 := ((some (.int v20)), (zS I21 J22 tg))) rfl (Nat.le_of_ble_eq_true rfl) c31 ?_
      refine Runs.as (c' := (28, [.ref 93, .int a1, .int a2, .int a3], [.int v20], (zS I21 J22 tg))) rfl ?_
      by_cases c32 : v20 = 0
      · rw [if_pos c32] at h
        refine Runs.brT (P := v20 = 0) (a := 31) (b := 33) (L := [.ref 93, .int a1, .int a2, .int a3]) (S := []) (z := (zS I21 J22 tg)) rfl c32 ?_
        refine Runs.sN 1 (c' := (32, [.ref 93, .int a1, .int a2, .int a3], [.int (-1)], (zS I21 J22 tg))) rfl ?_
        subst h
        exact Runs.rt rfl
      · rw [if_neg c32] at h
        refine Runs.brF (P := v20 = 0) (a := 31) (b := 33) (L := [.ref 93, .int a1, .int a2, .int a3]) (S := []) (z := (zS I21 J22 tg)) rfl c32 ?_
        refine Runs.sN 1 (c' := (34, [.ref 93, .int a1, .int a2, .int a3], [.ref 93], (zS I21 J22 tg))) rfl ?_
        obtain ⟨I23, J24, c33, h⟩ := h
        refine Runs.cl (cm := 274) (as := [.ref 93]) (rest := []) (r1 := (none, (zS I23 J24 tg))) rfl (Nat.le_of_ble_eq_true rfl) c33 ?_
        refine Runs.as (c' := (37, [.ref 93, .int a1, .int a2, .int a3], [], (zS I23 J24 tg))) rfl ?_
        refine Runs.sN 3 (c' := (40, [.ref 93, .int a1, .int a2, .int a3], [.int a3, .int a2, .ref 93], (zS I23 J24 tg))) rfl ?_
        obtain ⟨I25, J26, c34, h⟩ := h
        refine Runs.cl (cm := 273) (as := [.ref 93, .int a2, .int a3]) (rest := []) (r1 := (none, (zS I25 J26 tg))) rfl (Nat.le_of_ble_eq_true rfl) c34 ?_
        refine Runs.as (c' := (43, [.ref 93, .int a1, .int a2, .int a3], [], (zS I25 J26 tg))) rfl ?_
        refine Runs.sN 3 (c' := (48, [.ref 93, .int a1, .int a2, .int a3], [.int a1, .ref 110], (zS I25 J26 tg))) rfl ?_
        obtain ⟨c35, h⟩ := h
        refine Runs.to (c' := (49, [.ref 93, .int a1, .int a2, .int a3], [.int (I25 110 ((a1).toNatClampNeg))], (zS I25 J26 tg))) (Runs.ild rfl (show (110 : Nat) < 114 by decide) rfl c35) ?_
        subst h
        exact Runs.rt rfl
-- X12_rowRights 
theorem sg_276 {L d : Nat} {xs : Nat → Int32} (I : Nat → Nat → Int32) (J : Nat → Nat → Int64) (tg : Option Nat) (a1 : Int32) {r : Option Value × SS} (h : (Runs (GW L xs) (d + 1) 276 (4, [.ref 93, .int a1, .int 0, .int 0, vU, vU], [], (zS I J tg)) r)) : Runs (GW L xs) (d + 1) 276 (0, [.ref 93, .int a1, vU, vU, vU, vU], [], (zS I J tg)) r := by
  refine Runs.sN 4 (c' := (4, [.ref 93, .int a1, .int 0, .int 0, vU, vU], [], (zS I J tg))) rfl ?_
  exact h
theorem sg_276_4 {L d : Nat} {xs : Nat → Int32} (I : Nat → Nat → Int32) (J : Nat → Nat → Int64) (tg : Option Nat) (x1 : Int32) (x2 : Int32) (x3 : Int32) {r : Option Value × SS} (h : ((if 6 ≤ x3 then (r = (some (.int x2), (zS I J tg))) else (¬ ((680 + x3) < 0 ∨ 1200 ≤ (680 + x3).toNatClampNeg) ∧ (if (I 94 ((680 + x3).toNatClampNeg)) = 0 then (Runs (GW L xs) (d + 1) 276 (4, [.ref 93, .int x1, .int x2, .int (x3 + 1), vU, vU], [], (zS I J tg)) r) else (∃ (I1 : Nat → Nat → Int32) (J2 : Nat → Nat → Int64), Runs (GW L xs) d 273 (0, [.ref 93, .int x3, .int x1, vU], [], (zS I J tg)) (none, (zS I1 J2 tg)) ∧ Runs (GW L xs) (d + 1) 276 (35, [.ref 93, .int x1, .int x2, .int x3, .int 0, vU], [], (zS I1 J2 tg)) r)))))) : Runs (GW L xs) (d + 1) 276 (4, [.ref 93, .int x1, .int x2, .int x3, vU, vU], [], (zS I J tg)) r := by
  refine Runs.sN 2 (c' := (7, [.ref 93, .int x1, .int x2, .int x3, vU, vU], [.int 6, .int x3], (zS I J tg))) rfl ?_
  by_cases c3 : 6 ≤ x3
  · rw [if_pos c3] at h
    refine Runs.brT (P := 6 ≤ x3) (a := 116) (b := 10) (L := [.ref 93, .int x1, .int x2, .int x3, vU, vU]) (S := []) (z := (zS I J tg)) rfl c3 ?_
    refine Runs.sN 1 (c' := (117, [.ref 93, .int x1, .int x2, .int x3, vU, vU], [.int x2], (zS I J tg))) rfl ?_
    subst h
    exact Runs.rt rfl
  · rw [if_neg c3] at h
    refine Runs.brF (P := 6 ≤ x3) (a := 116) (b := 10) (L := [.ref 93, .int x1, .int x2, .int x3, vU, vU]) (S := []) (z := (zS I J tg)) rfl c3 ?_
    refine Runs.sN 5 (c' := (19, [.ref 93, .int x1, .int x2, .int x3, vU, vU], [.int (680 + x3), .ref 94], (zS I J tg))) rfl ?_
    obtain ⟨c4, h⟩ := h
    refine Runs.to (c' := (20, [.ref 93, .int x1, .int x2, .int x3, vU, vU], [.int (I 94 ((680 + x3).toNatClampNeg))], (zS I J tg))) (Runs.ild rfl (show (94 : Nat) < 114 by decide) rfl c4) ?_
    by_cases c5 : (I 94 ((680 + x3).toNatClampNeg)) = 0
    · rw [if_pos c5] at h
      refine Runs.brT (P := (I 94 ((680 + x3).toNatClampNeg)) = 0) (a := 23) (b := 26) (L := [.ref 93, .int x1, .int x2, .int x3, vU, vU]) (S := []) (z := (zS I J tg)) rfl c5 ?_
      refine Runs.sN 3 (c' := (4, [.ref 93, .int x1, .int x2, .int (x3 + 1), vU, vU], [], (zS I J tg))) rfl ?_
      exact h
    · rw [if_neg c5] at h
      refine Runs.brF (P := (I 94 ((680 + x3).toNatClampNeg)) = 0) (a := 23) (b := 26) (L := [.ref 93, .int x1, .int x2, .int x3, vU, vU]) (S := []) (z := (zS I J tg)) rfl c5 ?_
      refine Runs.sN 3 (c' := (29, [.ref 93, .int x1, .int x2, .int x3, vU, vU], [.int x1, .int x3, .ref 93], (zS I J tg))) rfl ?_
      obtain ⟨I1, J2, c6, h⟩ := h
      refine Runs.cl (cm := 273) (as := [.ref 93, .int x3, .int x1]) (rest := []) (r1 := (none, (zS I1 J2 tg))) rfl (Nat.le_of_ble_eq_true rfl) c6 ?_
      refine Runs.as (c' := (32, [.ref 93, .int x1, .int x2, .int x3, vU, vU], [], (zS I1 J2 tg))) rfl ?_
      refine Runs.sN 2 (c' := (35, [.ref 93, .int x1, .int x2, .int x3, .int 0, vU], [], (zS I1 J2 tg))) rfl ?_
      exact h
theorem sg_276_35 {L d : Nat} {xs : Nat → Int32} (I : Nat → Nat → Int32) (J : Nat → Nat → Int64) (tg : Option Nat) (x1 : Int32) (x2 : Int32) (x3 : Int32) (x4 : Int32) {r : Option Value × SS} (h : ((if (I 94 6) ≤ x4 then (Runs (GW L xs) (d + 1) 276 (4, [.ref 93, .int x1, .int x2, .int (x3 + 1), vU, vU], [], (zS I J tg)) r) else (¬ (x4 < 0 ∨ 8 ≤ (x4).toNatClampNeg) ∧ ¬ ((880 + (I 109 ((x4).toNatClampNeg))) < 0 ∨ 1200 ≤ (880 + (I 109 ((x4).toNatClampNeg))).toNatClampNeg) ∧ ∃ (v1 : Int32) (I2 : Nat → Nat → Int32) (J3 : Nat → Nat → Int64), Runs (GW L xs) d 246 (0, [.ref 93, .int (I 94 ((880 + (I 109 ((x4).toNatClampNeg))).toNatClampNeg)), .int x3], [], (zS I J tg)) ((some (.int v1)), (zS I2 J3 tg)) ∧ (if v1 = 0 then (¬ (x4 < 0 ∨ 8 ≤ (x4).toNatClampNeg) ∧ ∃ (v4 : Int32) (I5 : Nat → Nat → Int32) (J6 : Nat → Nat → Int64), Runs (GW L xs) d 245 (0, [.ref 93, .int (I 94 ((880 + (I 109 ((x4).toNatClampNeg))).toNatClampNeg)), .int (I2 110 ((x4).toNatClampNeg))], [], (zS I2 J3 tg)) ((some (.int v4)), (zS I5 J6 tg)) ∧ (if v4 = 0 then (Runs (GW L xs) (d + 1) 276 (35, [.ref 93, .int x1, .int x2, .int x3, .int (x4 + 1), vU], [], (zS I5 J6 tg)) r) else (¬ ((680 + x3) < 0 ∨ 1200 ≤ (680 + x3).toNatClampNeg) ∧ Runs (GW L xs) (d + 1) 276 (35, [.ref 93, .int x1, .int (x2 + (I5 94 ((680 + x3).toNatClampNeg))), .int x3, .int (x4 + 1), vU], [], (zS I5 J6 tg)) r))) else (¬ ((680 + x3) < 0 ∨ 1200 ≤ (680 + x3).toNatClampNeg) ∧ Runs (GW L xs) (d + 1) 276 (35, [.ref 93, .int x1, .int (x2 + (I2 94 ((680 + x3).toNatClampNeg))), .int x3, .int (x4 + 1), vU], [], (zS I2 J3 tg)) r)))))) : Runs (GW L xs) (d + 1) 276 (35, [.ref 93, .int x1, .int x2, .int x3, .int x4, vU], [], (zS I J tg)) r := by
  refine Runs.sN 5 (c' := (44, [.ref 93, .int x1, .int x2, .int x3, .int x4, vU], [.int (I 94 6), .int x4], (zS I J tg))) rfl ?_
  by_cases c7 : (I 94 6) ≤ x4
  · rw [if_pos c7] at h
    refine Runs.brT (P := (I 94 6) ≤ x4) (a := 110) (b := 47) (L := [.ref 93, .int x1, .int x2, .int x3, .int x4, vU]) (S := []) (z := (zS I J tg)) rfl c7 ?_
    refine Runs.sN 2 (c' := (4, [.ref 93, .int x1, .int x2, .int (x3 + 1), .int x4, vU], [], (zS I J tg))) rfl ?_
    exact Runs.weak (L := [.ref 93, .int x1, .int x2, .int (x3 + 1), vU, vU]) (Lle.k (Lle.k (Lle.k (Lle.k (Lle.u (Lle.k Lle.n)))))) h
  · rw [if_neg c7] at h
    refine Runs.brF (P := (I 94 6) ≤ x4) (a := 110) (b := 47) (L := [.ref 93, .int x1, .int x2, .int x3, .int x4, vU]) (S := []) (z := (zS I J tg)) rfl c7 ?_
    refine Runs.sN 6 (c' := (60, [.ref 93, .int x1, .int x2, .int x3, .int x4, vU], [.int x4, .ref 109, .int 880, .ref 94], (zS I J tg))) rfl ?_
    obtain ⟨c8, h⟩ := h
    refine Runs.to (c' := (61, [.ref 93, .int x1, .int x2, .int x3, .int x4, vU], [.int (I 109 ((x4).toNatClampNeg)), .int 880, .ref 94], (zS I J tg))) (Runs.ild rfl (show (109 : Nat) < 114 by decide) rfl c8) ?_
    refine Runs.sN 1 (c' := (62, [.ref 93, .int x1, .int x2, .int x3, .int x4, vU], [.int (880 + (I 109 ((x4).toNatClampNeg))), .ref 94], (zS I J tg))) rfl ?_
    obtain ⟨c9, h⟩ := h
    refine Runs.to (c' := (63, [.ref 93, .int x1, .int x2, .int x3, .int x4, vU], [.int (I 94 ((880 + (I 109 ((x4).toNatClampNeg))).toNatClampNeg))], (zS I J tg))) (Runs.ild rfl (show (94 : Nat) < 114 by decide) rfl c9) ?_
    refine Runs.sN 4 (c' := (69, [.ref 93, .int x1, .int x2, .int x3, .int x4, .int (I 94 ((880 + (I 109 ((x4).toNatClampNeg))).toNatClampNeg))], [.int x3, .int (I 94 ((880 + (I 109 ((x4).toNatClampNeg))).toNatClampNeg)), .ref 93], (zS I J tg))) rfl ?_
    obtain ⟨v1, I2, J3, c10, h⟩ := h
    refine Runs.cl (cm := 246) (as := [.ref 93, .int (I 94 ((880 + (I 109 ((x4).toNatClampNeg))).toNatClampNeg)), .int x3]) (rest := []) (r1 := ((some (.int v1)), (zS I2 J3 tg))) rfl (Nat.le_of_ble_eq_true rfl) c10 ?_
    refine Runs.as (c' := (72, [.ref 93, .int x1, .int x2, .int x3, .int x4, .int (I 94 ((880 + (I 109 ((x4).toNatClampNeg))).toNatClampNeg))], [.int v1], (zS I2 J3 tg))) rfl ?_
    by_cases c11 : v1 = 0
    · rw [if_pos c11] at h
      refine Runs.brT (P := v1 = 0) (a := 75) (b := 91) (L := [.ref 93, .int x1, .int x2, .int x3, .int x4, .int (I 94 ((880 + (I 109 ((x4).toNatClampNeg))).toNatClampNeg))]) (S := []) (z := (zS I2 J3 tg)) rfl c11 ?_
      refine Runs.sN 5 (c' := (84, [.ref 93, .int x1, .int x2, .int x3, .int x4, .int (I 94 ((880 + (I 109 ((x4).toNatClampNeg))).toNatClampNeg))], [.int x4, .ref 110, .int (I 94 ((880 + (I 109 ((x4).toNatClampNeg))).toNatClampNeg)), .ref 93], (zS I2 J3 tg))) rfl ?_
      obtain ⟨c12, h⟩ := h
      refine Runs.to (c' := (85, [.ref 93, .int x1, .int x2, .int x3, .int x4, .int (I 94 ((880 + (I 109 ((x4).toNatClampNeg))).toNatClampNeg))], [.int (I2 110 ((x4).toNatClampNeg)), .int (I 94 ((880 + (I 109 ((x4).toNatClampNeg))).toNatClampNeg)), .ref 93], (zS I2 J3 tg))) (Runs.ild rfl (show (110 : Nat) < 114 by decide) rfl c12) ?_
      obtain ⟨v4, I5, J6, c13, h⟩ := h
      refine Runs.cl (cm := 245) (as := [.ref 93, .int (I 94 ((880 + (I 109 ((x4).toNatClampNeg))).toNatClampNeg)), .int (I2 110 ((x4).toNatClampNeg))]) (rest := []) (r1 := ((some (.int v4)), (zS I5 J6 tg))) rfl (Nat.le_of_ble_eq_true rfl) c13 ?_
      refine Runs.as (c' := (88, [.ref 93, .int x1, .int x2, .int x3, .int x4, .int (I 94 ((880 + (I 109 ((x4).toNatClampNeg))).toNatClampNeg))], [.int v4], (zS I5 J6 tg))) rfl ?_
      by_cases c14 : v4 = 0
      · rw [if_pos c14] at h
        refine Runs.brT (P := v4 = 0) (a := 104) (b := 91) (L := [.ref 93, .int x1, .int x2, .int x3, .int x4, .int (I 94 ((880 + (I 109 ((x4).toNatClampNeg))).toNatClampNeg))]) (S := []) (z := (zS I5 J6 tg)) rfl c14 ?_
        refine Runs.sN 2 (c' := (35, [.ref 93, .int x1, .int x2, .int x3, .int (x4 + 1), .int (I 94 ((880 + (I 109 ((x4).toNatClampNeg))).toNatClampNeg))], [], (zS I5 J6 tg))) rfl ?_
        exact Runs.weak (L := [.ref 93, .int x1, .int x2, .int x3, .int (x4 + 1), vU]) (Lle.k (Lle.k (Lle.k (Lle.k (Lle.k (Lle.u Lle.n)))))) h
      · rw [if_neg c14] at h
        refine Runs.brF (P := v4 = 0) (a := 104) (b := 91) (L := [.ref 93, .int x1, .int x2, .int x3, .int x4, .int (I 94 ((880 + (I 109 ((x4).toNatClampNeg))).toNatClampNeg))]) (S := []) (z := (zS I5 J6 tg)) rfl c14 ?_
        refine Runs.sN 6 (c' := (101, [.ref 93, .int x1, .int x2, .int x3, .int x4, .int (I 94 ((880 + (I 109 ((x4).toNatClampNeg))).toNatClampNeg))], [.int (680 + x3), .ref 94, .int x2], (zS I5 J6 tg))) rfl ?_
        obtain ⟨c15, h⟩ := h
        refine Runs.to (c' := (102, [.ref 93, .int x1, .int x2, .int x3, .int x4, .int (I 94 ((880 + (I 109 ((x4).toNatClampNeg))).toNatClampNeg))], [.int (I5 94 ((680 + x3).toNatClampNeg)), .int x2], (zS I5 J6 tg))) (Runs.ild rfl (show (94 : Nat) < 114 by decide) rfl c15) ?_
        refine Runs.sN 4 (c' := (35, [.ref 93, .int x1, .int (x2 + (I5 94 ((680 + x3).toNatClampNeg))), .int x3, .int (x4 + 1), .int (I 94 ((880 + (I 109 ((x4).toNatClampNeg))).toNatClampNeg))], [], (zS I5 J6 tg))) rfl ?_
        exact Runs.weak (L := [.ref 93, .int x1, .int (x2 + (I5 94 ((680 + x3).toNatClampNeg))), .int x3, .int (x4 + 1), vU]) (Lle.k (Lle.k (Lle.k (Lle.k (Lle.k (Lle.u Lle.n)))))) h
    · rw [if_neg c11] at h
      refine Runs.brF (P := v1 = 0) (a := 75) (b := 91) (L := [.ref 93, .int x1, .int x2, .int x3, .int x4, .int (I 94 ((880 + (I 109 ((x4).toNatClampNeg))).toNatClampNeg))]) (S := []) (z := (zS I2 J3 tg)) rfl c11 ?_
      refine Runs.sN 6 (c' := (101, [.ref 93, .int x1, .int x2, .int x3, .int x4, .int (I 94 ((880 + (I 109 ((x4).toNatClampNeg))).toNatClampNeg))], [.int (680 + x3), .ref 94, .int x2], (zS I2 J3 tg))) rfl ?_
      obtain ⟨c16, h⟩ := h
      refine Runs.to (c' := (102, [.ref 93, .int x1, .int x2, .int x3, .int x4, .int (I 94 ((880 + (I 109 ((x4).toNatClampNeg))).toNatClampNeg))], [.int (I2 94 ((680 + x3).toNatClampNeg)), .int x2], (zS I2 J3 tg))) (Runs.ild rfl (show (94 : Nat) < 114 by decide) rfl c16) ?_
      refine Runs.sN 4 (c' := (35, [.ref 93, .int x1, .int (x2 + (I2 94 ((680 + x3).toNatClampNeg))), .int x3, .int (x4 + 1), .int (I 94 ((880 + (I 109 ((x4).toNatClampNeg))).toNatClampNeg))], [], (zS I2 J3 tg))) rfl ?_
      exact Runs.weak (L := [.ref 93, .int x1, .int (x2 + (I2 94 ((680 + x3).toNatClampNeg))), .int x3, .int (x4 + 1), vU]) (Lle.k (Lle.k (Lle.k (Lle.k (Lle.k (Lle.u Lle.n)))))) h
-- X12_nextOrder 
theorem sg_277 {L d : Nat} {xs : Nat → Int32} (I : Nat → Nat → Int32) (J : Nat → Nat → Int64) (tg : Option Nat) (a1 : Int32) {r : Option Value × SS} (h : (Runs (GW L xs) d 277 (4, [.ref 93, .int a1, .int (a1 - 2), vU, vU, vU, vU], [], (zS I J tg)) r)) : Runs (GW L xs) d 277 (0, [.ref 93, .int a1, vU, vU, vU, vU, vU], [], (zS I J tg)) r := by
  refine Runs.sN 4 (c' := (4, [.ref 93, .int a1, .int (a1 - 2), vU, vU, vU, vU], [], (zS I J tg))) rfl ?_
  exact h
theorem sg_277_4 {L d : Nat} {xs : Nat → Int32} (I : Nat → Nat → Int32) (J : Nat → Nat → Int64) (tg : Option Nat) (x1 : Int32) (x2 : Int32) {r : Option Value × SS} (h : ((if x2 < 0 then ((if 0 ≤ x2 then (Runs (GW L xs) d 277 (41, [.ref 93, .int x1, .int x2, .int (x1 - 1), vU, vU, vU], [], (zS I J tg)) r) else (r = (some (.int 0), (zS I J tg))))) else (¬ (x2 < 0 ∨ 8 ≤ (x2).toNatClampNeg) ∧ ¬ ((x2 + 1) < 0 ∨ 8 ≤ (x2 + 1).toNatClampNeg) ∧ (if (I 109 ((x2).toNatClampNeg)) ≤ (I 109 ((x2 + 1).toNatClampNeg)) then ((if 0 ≤ x2 then (Runs (GW L xs) d 277 (41, [.ref 93, .int x1, .int x2, .int (x1 - 1), vU, vU, vU], [], (zS I J tg)) r) else (r = (some (.int 0), (zS I J tg))))) else (Runs (GW L xs) d 277 (4, [.ref 93, .int x1, .int (x2 + (-1)), vU, vU, vU, vU], [], (zS I J tg)) r)))))) : Runs (GW L xs) d 277 (4, [.ref 93, .int x1, .int x2, vU, vU, vU, vU], [], (zS I J tg)) r := by
  refine Runs.sN 1 (c' := (5, [.ref 93, .int x1, .int x2, vU, vU, vU, vU], [.int x2], (zS I J tg))) rfl ?_
  by_cases c1 : x2 < 0
  · rw [if_pos c1] at h
    refine Runs.brT (P := x2 < 0) (a := 31) (b := 8) (L := [.ref 93, .int x1, .int x2, vU, vU, vU, vU]) (S := []) (z := (zS I J tg)) rfl c1 ?_
    refine Runs.sN 1 (c' := (32, [.ref 93, .int x1, .int x2, vU, vU, vU, vU], [.int x2], (zS I J tg))) rfl ?_
    by_cases c2 : 0 ≤ x2
    · rw [if_pos c2] at h
      refine Runs.brT (P := 0 ≤ x2) (a := 37) (b := 35) (L := [.ref 93, .int x1, .int x2, vU, vU, vU, vU]) (S := []) (z := (zS I J tg)) rfl c2 ?_
      refine Runs.sN 4 (c' := (41, [.ref 93, .int x1, .int x2, .int (x1 - 1), vU, vU, vU], [], (zS I J tg))) rfl ?_
      exact h
    · rw [if_neg c2] at h
      refine Runs.brF (P := 0 ≤ x2) (a := 37) (b := 35) (L := [.ref 93, .int x1, .int x2, vU, vU, vU, vU]) (S := []) (z := (zS I J tg)) rfl c2 ?_
      refine Runs.sN 1 (c' := (36, [.ref 93, .int x1, .int x2, vU, vU, vU, vU], [.int 0], (zS I J tg))) rfl ?_
      subst h
      exact Runs.rt rfl
  · rw [if_neg c1] at h
    refine Runs.brF (P := x2 < 0) (a := 31) (b := 8) (L := [.ref 93, .int x1, .int x2, vU, vU, vU, vU]) (S := []) (z := (zS I J tg)) rfl c1 ?_
    refine Runs.sN 3 (c' := (13, [.ref 93, .int x1, .int x2, vU, vU, vU, vU], [.int x2, .ref 109], (zS I J tg))) rfl ?_
    obtain ⟨c3, h⟩ := h
    refine Runs.to (c' := (14, [.ref 93, .int x1, .int x2, vU, vU, vU, vU], [.int (I 109 ((x2).toNatClampNeg))], (zS I J tg))) (Runs.ild rfl (show (109 : Nat) < 114 by decide) rfl c3) ?_
    refine Runs.sN 5 (c' := (21, [.ref 93, .int x1, .int x2, vU, vU, vU, vU], [.int (x2 + 1), .ref 109, .int (I 109 ((x2).toNatClampNeg))], (zS I J tg))) rfl ?_
    obtain ⟨c4, h⟩ := h
    refine Runs.to (c' := (22, [.ref 93, .int x1, .int x2, vU, vU, vU, vU], [.int (I 109 ((x2 + 1).toNatClampNeg)), .int (I 109 ((x2).toNatClampNeg))], (zS I J tg))) (Runs.ild rfl (show (109 : Nat) < 114 by decide) rfl c4) ?_
    by_cases c5 : (I 109 ((x2).toNatClampNeg)) ≤ (I 109 ((x2 + 1).toNatClampNeg))
    · rw [if_pos c5] at h
      refine Runs.brT (P := (I 109 ((x2).toNatClampNeg)) ≤ (I 109 ((x2 + 1).toNatClampNeg))) (a := 31) (b := 25) (L := [.ref 93, .int x1, .int x2, vU, vU, vU, vU]) (S := []) (z := (zS I J tg)) rfl c5 ?_
      refine Runs.sN 1 (c' := (32, [.ref 93, .int x1, .int x2, vU, vU, vU, vU], [.int x2], (zS I J tg))) rfl ?_
      by_cases c6 : 0 ≤ x2
      · rw [if_pos c6] at h
        refine Runs.brT (P := 0 ≤ x2) (a := 37) (b := 35) (L := [.ref 93, .int x1, .int x2, vU, vU, vU, vU]) (S := []) (z := (zS I J tg)) rfl c6 ?_
        refine Runs.sN 4 (c' := (41, [.ref 93, .int x1, .int x2, .int (x1 - 1), vU, vU, vU], [], (zS I J tg))) rfl ?_
        exact h
      · rw [if_neg c6] at h
        refine Runs.brF (P := 0 ≤ x2) (a := 37) (b := 35) (L := [.ref 93, .int x1, .int x2, vU, vU, vU, vU]) (S := []) (z := (zS I J tg)) rfl c6 ?_
        refine Runs.sN 1 (c' := (36, [.ref 93, .int x1, .int x2, vU, vU, vU, vU], [.int 0], (zS I J tg))) rfl ?_
        subst h
        exact Runs.rt rfl
    · rw [if_neg c5] at h
      refine Runs.brF (P := (I 109 ((x2).toNatClampNeg)) ≤ (I 109 ((x2 + 1).toNatClampNeg))) (a := 31) (b := 25) (L := [.ref 93, .int x1, .int x2, vU, vU, vU, vU]) (S := []) (z := (zS I J tg)) rfl c5 ?_
      refine Runs.sN 2 (c' := (4, [.ref 93, .int x1, .int (x2 + (-1)), vU, vU, vU, vU], [], (zS I J tg))) rfl ?_
      exact h
theorem sg_277_41 {L d : Nat} {xs : Nat → Int32} (I : Nat → Nat → Int32) (J : Nat → Nat → Int64) (tg : Option Nat) (x1 : Int32) (x2 : Int32) (x3 : Int32) {r : Option Value × SS} (h : (¬ (x3 < 0 ∨ 8 ≤ (x3).toNatClampNeg) ∧ ¬ (x2 < 0 ∨ 8 ≤ (x2).toNatClampNeg) ∧ (if (I 109 ((x2).toNatClampNeg)) ≤ (I 109 ((x3).toNatClampNeg)) then (¬ (x2 < 0 ∨ 8 ≤ (x2).toNatClampNeg) ∧ ¬ (x3 < 0 ∨ 8 ≤ (x3).toNatClampNeg) ∧ ¬ (x2 < 0 ∨ 8 ≤ (x2).toNatClampNeg) ∧ ¬ (x3 < 0 ∨ 8 ≤ (x3).toNatClampNeg) ∧ Runs (GW L xs) d 277 (100, [.ref 93, .int x1, .int x2, .int x3, .int (I 109 ((x2).toNatClampNeg)), .int (x2 + 1), .int (x1 - 1)], [], (zS (up2 (up2 I 109 ((x2).toNatClampNeg) (I 109 ((x3).toNatClampNeg))) 109 ((x3).toNatClampNeg) (I 109 ((x2).toNatClampNeg))) J tg)) r) else (Runs (GW L xs) d 277 (41, [.ref 93, .int x1, .int x2, .int (x3 + (-1)), vU, vU, vU], [], (zS I J tg)) r)))) : Runs (GW L xs) d 277 (41, [.ref 93, .int x1, .int x2, .int x3, vU, vU, vU], [], (zS I J tg)) r := by
  refine Runs.sN 3 (c' := (46, [.ref 93, .int x1, .int x2, .int x3, vU, vU, vU], [.int x3, .ref 109], (zS I J tg))) rfl ?_
  obtain ⟨c1, h⟩ := h
  refine Runs.to (c' := (47, [.ref 93, .int x1, .int x2, .int x3, vU, vU, vU], [.int (I 109 ((x3).toNatClampNeg))], (zS I J tg))) (Runs.ild rfl (show (109 : Nat) < 114 by decide) rfl c1) ?_
  refine Runs.sN 3 (c' := (52, [.ref 93, .int x1, .int x2, .int x3, vU, vU, vU], [.int x2, .ref 109, .int (I 109 ((x3).toNatClampNeg))], (zS I J tg))) rfl ?_
  obtain ⟨c2, h⟩ := h
  refine Runs.to (c' := (53, [.ref 93, .int x1, .int x2, .int x3, vU, vU, vU], [.int (I 109 ((x2).toNatClampNeg)), .int (I 109 ((x3).toNatClampNeg))], (zS I J tg))) (Runs.ild rfl (show (109 : Nat) < 114 by decide) rfl c2) ?_
  by_cases c3 : (I 109 ((x2).toNatClampNeg)) ≤ (I 109 ((x3).toNatClampNeg))
  · rw [if_pos c3] at h
    refine Runs.brT (P := (I 109 ((x2).toNatClampNeg)) ≤ (I 109 ((x3).toNatClampNeg))) (a := 62) (b := 56) (L := [.ref 93, .int x1, .int x2, .int x3, vU, vU, vU]) (S := []) (z := (zS I J tg)) rfl c3 ?_
    refine Runs.sN 3 (c' := (67, [.ref 93, .int x1, .int x2, .int x3, vU, vU, vU], [.int x2, .ref 109], (zS I J tg))) rfl ?_
    obtain ⟨c4, h⟩ := h
    refine Runs.to (c' := (68, [.ref 93, .int x1, .int x2, .int x3, vU, vU, vU], [.int (I 109 ((x2).toNatClampNeg))], (zS I J tg))) (Runs.ild rfl (show (109 : Nat) < 114 by decide) rfl c4) ?_
    refine Runs.sN 7 (c' := (80, [.ref 93, .int x1, .int x2, .int x3, .int (I 109 ((x2).toNatClampNeg)), vU, vU], [.int x3, .ref 109, .int x2, .ref 109], (zS I J tg))) rfl ?_
    obtain ⟨c5, h⟩ := h
    refine Runs.to (c' := (81, [.ref 93, .int x1, .int x2, .int x3, .int (I 109 ((x2).toNatClampNeg)), vU, vU], [.int (I 109 ((x3).toNatClampNeg)), .int x2, .ref 109], (zS I J tg))) (Runs.ild rfl (show (109 : Nat) < 114 by decide) rfl c5) ?_
    obtain ⟨c6, h⟩ := h
    refine Runs.to (c' := (82, [.ref 93, .int x1, .int x2, .int x3, .int (I 109 ((x2).toNatClampNeg)), vU, vU], [], (zS (up2 I 109 ((x2).toNatClampNeg) (I 109 ((x3).toNatClampNeg))) J tg))) (Runs.ist rfl (show (109 : Nat) < 114 by decide) rfl c6) ?_
    refine Runs.sN 4 (c' := (89, [.ref 93, .int x1, .int x2, .int x3, .int (I 109 ((x2).toNatClampNeg)), vU, vU], [.int (I 109 ((x2).toNatClampNeg)), .int x3, .ref 109], (zS (up2 I 109 ((x2).toNatClampNeg) (I 109 ((x3).toNatClampNeg))) J tg))) rfl ?_
    obtain ⟨c7, h⟩ := h
    refine Runs.to (c' := (90, [.ref 93, .int x1, .int x2, .int x3, .int (I 109 ((x2).toNatClampNeg)), vU, vU], [], (zS (up2 (up2 I 109 ((x2).toNatClampNeg) (I 109 ((x3).toNatClampNeg))) 109 ((x3).toNatClampNeg) (I 109 ((x2).toNatClampNeg))) J tg))) (Runs.ist rfl (show (109 : Nat) < 114 by decide) rfl c7) ?_
    refine Runs.sN 8 (c' := (100, [.ref 93, .int x1, .int x2, .int x3, .int (I 109 ((x2).toNatClampNeg)), .int (x2 + 1), .int (x1 - 1)], [], (zS (up2 (up2 I 109 ((x2).toNatClampNeg) (I 109 ((x3).toNatClampNeg))) 109 ((x3).toNatClampNeg) (I 109 ((x2).toNatClampNeg))) J tg))) rfl ?_
    exact h
  · rw [if_neg c3] at h
    refine Runs.brF (P := (I 109 ((x2).toNatClampNeg)) ≤ (I 109 ((x3).toNatClampNeg))) (a := 62) (b := 56) (L := [.ref 93, .int x1, .int x2, .int x3, vU, vU, vU]) (S := []) (z := (zS I J tg)) rfl c3 ?_
    refine Runs.sN 2 (c' := (41, [.ref 93, .int x1, .int x2, .int (x3 + (-1)), vU, vU, vU], [], (zS I J tg))) rfl ?_
    exact h
theorem sg_277_100 {L d : Nat} {xs : Nat → Int32} (I : Nat → Nat → Int32) (J : Nat → Nat → Int64) (tg : Option Nat) (x1 : Int32) (x2 : Int32) (x3 : Int32) (x4 : Int32) (x5 : Int32) (x6 : Int32) {r : Option Value × SS} (h : ((if x6 ≤ x5 then (r = (some (.int 1), (zS I J tg))) else (¬ (x5 < 0 ∨ 8 ≤ (x5).toNatClampNeg) ∧ ¬ (x6 < 0 ∨ 8 ≤ (x6).toNatClampNeg) ∧ ¬ (x5 < 0 ∨ 8 ≤ (x5).toNatClampNeg) ∧ ¬ (x6 < 0 ∨ 8 ≤ (x6).toNatClampNeg) ∧ Runs (GW L xs) d 277 (100, [.ref 93, .int x1, .int x2, .int x3, .int (I 109 ((x5).toNatClampNeg)), .int (x5 + 1), .int (x6 + (-1))], [], (zS (up2 (up2 I 109 ((x5).toNatClampNeg) (I 109 ((x6).toNatClampNeg))) 109 ((x6).toNatClampNeg) (I 109 ((x5).toNatClampNeg))) J tg)) r)))) : Runs (GW L xs) d 277 (100, [.ref 93, .int x1, .int x2, .int x3, .int x4, .int x5, .int x6], [], (zS I J tg)) r := by
  refine Runs.sN 2 (c' := (104, [.ref 93, .int x1, .int x2, .int x3, .int x4, .int x5, .int x6], [.int x6, .int x5], (zS I J tg))) rfl ?_
  by_cases c1 : x6 ≤ x5
  · rw [if_pos c1] at h
    refine Runs.brT (P := x6 ≤ x5) (a := 148) (b := 107) (L := [.ref 93, .int x1, .int x2, .int x3, .int x4, .int x5, .int x6]) (S := []) (z := (zS I J tg)) rfl c1 ?_
    refine Runs.sN 1 (c' := (149, [.ref 93, .int x1, .int x2, .int x3, .int x4, .int x5, .int x6], [.int 1], (zS I J tg))) rfl ?_
    subst h
    exact Runs.rt rfl
  · rw [if_neg c1] at h
    refine Runs.brF (P := x6 ≤ x5) (a := 148) (b := 107) (L := [.ref 93, .int x1, .int x2, .int x3, .int x4, .int x5, .int x6]) (S := []) (z := (zS I J tg)) rfl c1 ?_
    refine Runs.sN 3 (c' := (113, [.ref 93, .int x1, .int x2, .int x3, .int x4, .int x5, .int x6], [.int x5, .ref 109], (zS I J tg))) rfl ?_
    obtain ⟨c2, h⟩ := h
    refine Runs.to (c' := (114, [.ref 93, .int x1, .int x2, .int x3, .int x4, .int x5, .int x6], [.int (I 109 ((x5).toNatClampNeg))], (zS I J tg))) (Runs.ild rfl (show (109 : Nat) < 114 by decide) rfl c2) ?_
    refine Runs.sN 7 (c' := (128, [.ref 93, .int x1, .int x2, .int x3, .int (I 109 ((x5).toNatClampNeg)), .int x5, .int x6], [.int x6, .ref 109, .int x5, .ref 109], (zS I J tg))) rfl ?_
    obtain ⟨c3, h⟩ := h
    refine Runs.to (c' := (129, [.ref 93, .int x1, .int x2, .int x3, .int (I 109 ((x5).toNatClampNeg)), .int x5, .int x6], [.int (I 109 ((x6).toNatClampNeg)), .int x5, .ref 109], (zS I J tg))) (Runs.ild rfl (show (109 : Nat) < 114 by decide) rfl c3) ?_
    obtain ⟨c4, h⟩ := h
    refine Runs.to (c' := (130, [.ref 93, .int x1, .int x2, .int x3, .int (I 109 ((x5).toNatClampNeg)), .int x5, .int x6], [], (zS (up2 I 109 ((x5).toNatClampNeg) (I 109 ((x6).toNatClampNeg))) J tg))) (Runs.ist rfl (show (109 : Nat) < 114 by decide) rfl c4) ?_
    refine Runs.sN 4 (c' := (138, [.ref 93, .int x1, .int x2, .int x3, .int (I 109 ((x5).toNatClampNeg)), .int x5, .int x6], [.int (I 109 ((x5).toNatClampNeg)), .int x6, .ref 109], (zS (up2 I 109 ((x5).toNatClampNeg) (I 109 ((x6).toNatClampNeg))) J tg))) rfl ?_
    obtain ⟨c5, h⟩ := h
    refine Runs.to (c' := (139, [.ref 93, .int x1, .int x2, .int x3, .int (I 109 ((x5).toNatClampNeg)), .int x5, .int x6], [], (zS (up2 (up2 I 109 ((x5).toNatClampNeg) (I 109 ((x6).toNatClampNeg))) 109 ((x6).toNatClampNeg) (I 109 ((x5).toNatClampNeg))) J tg))) (Runs.ist rfl (show (109 : Nat) < 114 by decide) rfl c5) ?_
    refine Runs.sN 3 (c' := (100, [.ref 93, .int x1, .int x2, .int x3, .int (I 109 ((x5).toNatClampNeg)), .int (x5 + 1), .int (x6 + (-1))], [], (zS (up2 (up2 I 109 ((x5).toNatClampNeg) (I 109 ((x6).toNatClampNeg))) 109 ((x6).toNatClampNeg) (I 109 ((x5).toNatClampNeg))) J tg))) rfl ?_
    exact h
-- X12_order 
theorem sg_278 {L d : Nat} {xs : Nat → Int32} (I : Nat → Nat → Int32) (J : Nat → Nat → Int64) (tg : Option Nat) (a1 : Int32) (a2 : Int32) {r : Option Value × SS} (h : (∃ (v49 : Int32) (I50 : Nat → Nat → Int32) (J51 : Nat → Nat → Int64), Runs (GW L xs) d 182 (0, [.int a1], [], (zS I J tg)) ((some (.int v49)), (zS I50 J51 tg)) ∧ (if v49 = 0 then (r = (some (.int (-1)), (zS I50 J51 tg))) else (∃ (v52 : Int32) (I53 : Nat → Nat → Int32) (J54 : Nat → Nat → Int64), Runs (GW L xs) d 177 (0, [.int (I50 94 6), .int 1, .int 6], [], (zS I50 J51 tg)) ((some (.int v52)), (zS I53 J54 tg)) ∧ (if v52 = 0 then (r = (some (.int (-1)), (zS I53 J54 tg))) else (∃ (v55 : Int32) (I56 : Nat → Nat → Int32) (J57 : Nat → Nat → Int64), Runs (GW L xs) d 177 (0, [.int a2, .int (-1), .int ((I53 94 6) - 1)], [], (zS I53 J54 tg)) ((some (.int v55)), (zS I56 J57 tg)) ∧ (if v55 = 0 then (r = (some (.int (-1)), (zS I56 J57 tg))) else (∃ (I58 : Nat → Nat → Int32) (J59 : Nat → Nat → Int64), Runs (GW L xs) d 274 (0, [.ref 93, vU], [], (zS I56 J57 tg)) (none, (zS I58 J59 tg)) ∧ Runs (GW L xs) (d + 1) 278 (51, [.ref 93, .int a1, .int a2, .int (-1), .int 1, vU, vU], [], (zS I58 J59 tg)) r)))))))) : Runs (GW L xs) (d + 1) 278 (0, [.ref 93, .int a1, .int a2, vU, vU, vU, vU], [], (zS I J tg)) r := by
  refine Runs.sN 1 (c' := (1, [.ref 93, .int a1, .int a2, vU, vU, vU, vU], [.int a1], (zS I J tg))) rfl ?_
  obtain ⟨v49, I50, J51, c60, h⟩ := h
  refine Runs.cl (cm := 182) (as := [.int a1]) (rest := []) (r1 := ((some (.int v49)), (zS I50 J51 tg))) rfl (Nat.le_of_ble_eq_true rfl) c60 ?_
  refine Runs.as (c' := (4, [.ref 93, .int a1, .int a2, vU, vU, vU, vU], [.int v49], (zS I50 J51 tg))) rfl ?_
  by_cases c61 : v49 = 0
  · rw [if_pos c61] at h
    refine Runs.brT (P := v49 = 0) (a := 40) (b := 7) (L := [.ref 93, .int a1, .int a2, vU, vU, vU, vU]) (S := []) (z := (zS I50 J51 tg)) rfl c61 ?_
    refine Runs.sN 1 (c' := (41, [.ref 93, .int a1, .int a2, vU, vU, vU, vU], [.int (-1)], (zS I50 J51 tg))) rfl ?_
    subst h
    exact Runs.rt rfl
  · rw [if_neg c61] at h
    refine Runs.brF (P := v49 = 0) (a := 40) (b := 7) (L := [.ref 93, .int a1, .int a2, vU, vU, vU, vU]) (S := []) (z := (zS I50 J51 tg)) rfl c61 ?_
    refine Runs.sN 6 (c' := (17, [.ref 93, .int a1, .int a2, vU, vU, vU, vU], [.int 6, .int 1, .int (I50 94 6)], (zS I50 J51 tg))) rfl ?_
    obtain ⟨v52, I53, J54, c62, h⟩ := h
    refine Runs.cl (cm := 177) (as := [.int (I50 94 6), .int 1, .int 6]) (rest := []) (r1 := ((some (.int v52)), (zS I53 J54 tg))) rfl (Nat.le_of_ble_eq_true rfl) c62 ?_
    refine Runs.as (c' := (20, [.ref 93, .int a1, .int a2, vU, vU, vU, vU], [.int v52], (zS I53 J54 tg))) rfl ?_
    by_cases c63 : v52 = 0
    · rw [if_pos c63] at h
      refine Runs.brT (P := v52 = 0) (a := 40) (b := 23) (L := [.ref 93, .int a1, .int a2, vU, vU, vU, vU]) (S := []) (z := (zS I53 J54 tg)) rfl c63 ?_
      refine Runs.sN 1 (c' := (41, [.ref 93, .int a1, .int a2, vU, vU, vU, vU], [.int (-1)], (zS I53 J54 tg))) rfl ?_
      subst h
      exact Runs.rt rfl
    · rw [if_neg c63] at h
      refine Runs.brF (P := v52 = 0) (a := 40) (b := 23) (L := [.ref 93, .int a1, .int a2, vU, vU, vU, vU]) (S := []) (z := (zS I53 J54 tg)) rfl c63 ?_
      refine Runs.sN 8 (c' := (34, [.ref 93, .int a1, .int a2, vU, vU, vU, vU], [.int ((I53 94 6) - 1), .int (-1), .int a2], (zS I53 J54 tg))) rfl ?_
      obtain ⟨v55, I56, J57, c64, h⟩ := h
      refine Runs.cl (cm := 177) (as := [.int a2, .int (-1), .int ((I53 94 6) - 1)]) (rest := []) (r1 := ((some (.int v55)), (zS I56 J57 tg))) rfl (Nat.le_of_ble_eq_true rfl) c64 ?_
      refine Runs.as (c' := (37, [.ref 93, .int a1, .int a2, vU, vU, vU, vU], [.int v55], (zS I56 J57 tg))) rfl ?_
      by_cases c65 : v55 = 0
      · rw [if_pos c65] at h
        refine Runs.brT (P := v55 = 0) (a := 40) (b := 42) (L := [.ref 93, .int a1, .int a2, vU, vU, vU, vU]) (S := []) (z := (zS I56 J57 tg)) rfl c65 ?_
        refine Runs.sN 1 (c' := (41, [.ref 93, .int a1, .int a2, vU, vU, vU, vU], [.int (-1)], (zS I56 J57 tg))) rfl ?_
        subst h
        exact Runs.rt rfl
      · rw [if_neg c65] at h
        refine Runs.brF (P := v55 = 0) (a := 40) (b := 42) (L := [.ref 93, .int a1, .int a2, vU, vU, vU, vU]) (S := []) (z := (zS I56 J57 tg)) rfl c65 ?_
        refine Runs.sN 1 (c' := (43, [.ref 93, .int a1, .int a2, vU, vU, vU, vU], [.ref 93], (zS I56 J57 tg))) rfl ?_
        obtain ⟨I58, J59, c66, h⟩ := h
        refine Runs.cl (cm := 274) (as := [.ref 93]) (rest := []) (r1 := (none, (zS I58 J59 tg))) rfl (Nat.le_of_ble_eq_true rfl) c66 ?_
        refine Runs.as (c' := (46, [.ref 93, .int a1, .int a2, vU, vU, vU, vU], [], (zS I58 J59 tg))) rfl ?_
        refine Runs.sN 4 (c' := (51, [.ref 93, .int a1, .int a2, .int (-1), .int 1, vU, vU], [], (zS I58 J59 tg))) rfl ?_
        exact h
theorem sg_278_51 {L d : Nat} {xs : Nat → Int32} (I : Nat → Nat → Int32) (J : Nat → Nat → Int64) (tg : Option Nat) (x1 : Int32) (x2 : Int32) (x3 : Int32) (x4 : Int32) {r : Option Value × SS} (h : ((if x4 = 0 then ((if x2 = (-1) then (r = (some (.int x3), (zS I J tg))) else (¬ (x2 < 0 ∨ 8 ≤ (x2).toNatClampNeg) ∧ ¬ ((880 + (I 111 ((x2).toNatClampNeg))) < 0 ∨ 1200 ≤ (880 + (I 111 ((x2).toNatClampNeg))).toNatClampNeg) ∧ r = (some (.int (I 94 ((880 + (I 111 ((x2).toNatClampNeg))).toNatClampNeg))), (zS I J tg))))) else (∃ (v1 : Int32) (I2 : Nat → Nat → Int32) (J3 : Nat → Nat → Int64), Runs (GW L xs) d 276 (0, [.ref 93, .int x1, vU, vU, vU, vU], [], (zS I J tg)) ((some (.int v1)), (zS I2 J3 tg)) ∧ (if v1 ≤ x3 then (∃ (v4 : Int32) (I5 : Nat → Nat → Int32) (J6 : Nat → Nat → Int64), Runs (GW L xs) d 277 (0, [.ref 93, .int (I2 94 6), vU, vU, vU, vU, vU], [], (zS I2 J3 tg)) ((some (.int v4)), (zS I5 J6 tg)) ∧ Runs (GW L xs) (d + 1) 278 (51, [.ref 93, .int x1, .int x2, .int x3, .int v4, vU, vU], [], (zS I5 J6 tg)) r) else (Runs (GW L xs) (d + 1) 278 (75, [.ref 93, .int x1, .int x2, .int v1, .int x4, .int v1, .int 0], [], (zS I2 J3 tg)) r)))))) : Runs (GW L xs) (d + 1) 278 (51, [.ref 93, .int x1, .int x2, .int x3, .int x4, vU, vU], [], (zS I J tg)) r := by
  refine Runs.sN 1 (c' := (53, [.ref 93, .int x1, .int x2, .int x3, .int x4, vU, vU], [.int x4], (zS I J tg))) rfl ?_
  by_cases c7 : x4 = 0
  · rw [if_pos c7] at h
    refine Runs.brT (P := x4 = 0) (a := 118) (b := 56) (L := [.ref 93, .int x1, .int x2, .int x3, .int x4, vU, vU]) (S := []) (z := (zS I J tg)) rfl c7 ?_
    refine Runs.sN 2 (c' := (120, [.ref 93, .int x1, .int x2, .int x3, .int x4, vU, vU], [.int (-1), .int x2], (zS I J tg))) rfl ?_
    by_cases c8 : x2 = (-1)
    · rw [if_pos c8] at h
      refine Runs.brT (P := x2 = (-1)) (a := 123) (b := 127) (L := [.ref 93, .int x1, .int x2, .int x3, .int x4, vU, vU]) (S := []) (z := (zS I J tg)) rfl c8 ?_
      refine Runs.sN 2 (c' := (142, [.ref 93, .int x1, .int x2, .int x3, .int x4, vU, vU], [.int x3], (zS I J tg))) rfl ?_
      subst h
      exact Runs.rt rfl
    · rw [if_neg c8] at h
      refine Runs.brF (P := x2 = (-1)) (a := 123) (b := 127) (L := [.ref 93, .int x1, .int x2, .int x3, .int x4, vU, vU]) (S := []) (z := (zS I J tg)) rfl c8 ?_
      refine Runs.sN 6 (c' := (139, [.ref 93, .int x1, .int x2, .int x3, .int x4, vU, vU], [.int x2, .ref 111, .int 880, .ref 94], (zS I J tg))) rfl ?_
      obtain ⟨c9, h⟩ := h
      refine Runs.to (c' := (140, [.ref 93, .int x1, .int x2, .int x3, .int x4, vU, vU], [.int (I 111 ((x2).toNatClampNeg)), .int 880, .ref 94], (zS I J tg))) (Runs.ild rfl (show (111 : Nat) < 114 by decide) rfl c9) ?_
      refine Runs.sN 1 (c' := (141, [.ref 93, .int x1, .int x2, .int x3, .int x4, vU, vU], [.int (880 + (I 111 ((x2).toNatClampNeg))), .ref 94], (zS I J tg))) rfl ?_
      obtain ⟨c10, h⟩ := h
      refine Runs.to (c' := (142, [.ref 93, .int x1, .int x2, .int x3, .int x4, vU, vU], [.int (I 94 ((880 + (I 111 ((x2).toNatClampNeg))).toNatClampNeg))], (zS I J tg))) (Runs.ild rfl (show (94 : Nat) < 114 by decide) rfl c10) ?_
      subst h
      exact Runs.rt rfl
  · rw [if_neg c7] at h
    refine Runs.brF (P := x4 = 0) (a := 118) (b := 56) (L := [.ref 93, .int x1, .int x2, .int x3, .int x4, vU, vU]) (S := []) (z := (zS I J tg)) rfl c7 ?_
    refine Runs.sN 2 (c' := (58, [.ref 93, .int x1, .int x2, .int x3, .int x4, vU, vU], [.int x1, .ref 93], (zS I J tg))) rfl ?_
    obtain ⟨v1, I2, J3, c11, h⟩ := h
    refine Runs.cl (cm := 276) (as := [.ref 93, .int x1]) (rest := []) (r1 := ((some (.int v1)), (zS I2 J3 tg))) rfl (Nat.le_of_ble_eq_true rfl) c11 ?_
    refine Runs.as (c' := (61, [.ref 93, .int x1, .int x2, .int x3, .int x4, vU, vU], [.int v1], (zS I2 J3 tg))) rfl ?_
    refine Runs.sN 3 (c' := (66, [.ref 93, .int x1, .int x2, .int x3, .int x4, .int v1, vU], [.int x3, .int v1], (zS I2 J3 tg))) rfl ?_
    by_cases c12 : v1 ≤ x3
    · rw [if_pos c12] at h
      refine Runs.brT (P := v1 ≤ x3) (a := 102) (b := 69) (L := [.ref 93, .int x1, .int x2, .int x3, .int x4, .int v1, vU]) (S := []) (z := (zS I2 J3 tg)) rfl c12 ?_
      refine Runs.sN 5 (c' := (110, [.ref 93, .int x1, .int x2, .int x3, .int x4, .int v1, vU], [.int (I2 94 6), .ref 93], (zS I2 J3 tg))) rfl ?_
      obtain ⟨v4, I5, J6, c13, h⟩ := h
      refine Runs.cl (cm := 277) (as := [.ref 93, .int (I2 94 6)]) (rest := []) (r1 := ((some (.int v4)), (zS I5 J6 tg))) rfl (Nat.le_of_ble_eq_true rfl) c13 ?_
      refine Runs.as (c' := (113, [.ref 93, .int x1, .int x2, .int x3, .int x4, .int v1, vU], [.int v4], (zS I5 J6 tg))) rfl ?_
      refine Runs.sN 2 (c' := (51, [.ref 93, .int x1, .int x2, .int x3, .int v4, .int v1, vU], [], (zS I5 J6 tg))) rfl ?_
      exact Runs.weak (L := [.ref 93, .int x1, .int x2, .int x3, .int v4, vU, vU]) (Lle.k (Lle.k (Lle.k (Lle.k (Lle.k (Lle.u (Lle.k Lle.n))))))) h
    · rw [if_neg c12] at h
      refine Runs.brF (P := v1 ≤ x3) (a := 102) (b := 69) (L := [.ref 93, .int x1, .int x2, .int x3, .int x4, .int v1, vU]) (S := []) (z := (zS I2 J3 tg)) rfl c12 ?_
      refine Runs.sN 4 (c' := (75, [.ref 93, .int x1, .int x2, .int v1, .int x4, .int v1, .int 0], [], (zS I2 J3 tg))) rfl ?_
      exact h
theorem sg_278_75 {L d : Nat} {xs : Nat → Int32} (I : Nat → Nat → Int32) (J : Nat → Nat → Int64) (tg : Option Nat) (x1 : Int32) (x2 : Int32) (x3 : Int32) (x4 : Int32) (x5 : Int32) (x6 : Int32) {r : Option Value × SS} (h : ((if 8 ≤ x6 then (∃ (v1 : Int32) (I2 : Nat → Nat → Int32) (J3 : Nat → Nat → Int64), Runs (GW L xs) d 277 (0, [.ref 93, .int (I 94 6), vU, vU, vU, vU, vU], [], (zS I J tg)) ((some (.int v1)), (zS I2 J3 tg)) ∧ Runs (GW L xs) (d + 1) 278 (51, [.ref 93, .int x1, .int x2, .int x3, .int v1, vU, vU], [], (zS I2 J3 tg)) r) else (¬ (x6 < 0 ∨ 8 ≤ (x6).toNatClampNeg) ∧ ¬ (x6 < 0 ∨ 8 ≤ (x6).toNatClampNeg) ∧ Runs (GW L xs) (d + 1) 278 (75, [.ref 93, .int x1, .int x2, .int x3, .int x4, .int x5, .int (x6 + 1)], [], (zS (up2 I 111 ((x6).toNatClampNeg) (I 109 ((x6).toNatClampNeg))) J tg)) r)))) : Runs (GW L xs) (d + 1) 278 (75, [.ref 93, .int x1, .int x2, .int x3, .int x4, .int x5, .int x6], [], (zS I J tg)) r := by
  refine Runs.sN 2 (c' := (79, [.ref 93, .int x1, .int x2, .int x3, .int x4, .int x5, .int x6], [.int 8, .int x6], (zS I J tg))) rfl ?_
  by_cases c4 : 8 ≤ x6
  · rw [if_pos c4] at h
    refine Runs.brT (P := 8 ≤ x6) (a := 102) (b := 82) (L := [.ref 93, .int x1, .int x2, .int x3, .int x4, .int x5, .int x6]) (S := []) (z := (zS I J tg)) rfl c4 ?_
    refine Runs.sN 5 (c' := (110, [.ref 93, .int x1, .int x2, .int x3, .int x4, .int x5, .int x6], [.int (I 94 6), .ref 93], (zS I J tg))) rfl ?_
    obtain ⟨v1, I2, J3, c5, h⟩ := h
    refine Runs.cl (cm := 277) (as := [.ref 93, .int (I 94 6)]) (rest := []) (r1 := ((some (.int v1)), (zS I2 J3 tg))) rfl (Nat.le_of_ble_eq_true rfl) c5 ?_
    refine Runs.as (c' := (113, [.ref 93, .int x1, .int x2, .int x3, .int x4, .int x5, .int x6], [.int v1], (zS I2 J3 tg))) rfl ?_
    refine Runs.sN 2 (c' := (51, [.ref 93, .int x1, .int x2, .int x3, .int v1, .int x5, .int x6], [], (zS I2 J3 tg))) rfl ?_
    exact Runs.weak (L := [.ref 93, .int x1, .int x2, .int x3, .int v1, vU, vU]) (Lle.k (Lle.k (Lle.k (Lle.k (Lle.k (Lle.u (Lle.u Lle.n))))))) h
  · rw [if_neg c4] at h
    refine Runs.brF (P := 8 ≤ x6) (a := 102) (b := 82) (L := [.ref 93, .int x1, .int x2, .int x3, .int x4, .int x5, .int x6]) (S := []) (z := (zS I J tg)) rfl c4 ?_
    refine Runs.sN 6 (c' := (94, [.ref 93, .int x1, .int x2, .int x3, .int x4, .int x5, .int x6], [.int x6, .ref 109, .int x6, .ref 111], (zS I J tg))) rfl ?_
    obtain ⟨c6, h⟩ := h
    refine Runs.to (c' := (95, [.ref 93, .int x1, .int x2, .int x3, .int x4, .int x5, .int x6], [.int (I 109 ((x6).toNatClampNeg)), .int x6, .ref 111], (zS I J tg))) (Runs.ild rfl (show (109 : Nat) < 114 by decide) rfl c6) ?_
    obtain ⟨c7, h⟩ := h
    refine Runs.to (c' := (96, [.ref 93, .int x1, .int x2, .int x3, .int x4, .int x5, .int x6], [], (zS (up2 I 111 ((x6).toNatClampNeg) (I 109 ((x6).toNatClampNeg))) J tg))) (Runs.ist rfl (show (111 : Nat) < 114 by decide) rfl c7) ?_
    refine Runs.sN 2 (c' := (75, [.ref 93, .int x1, .int x2, .int x3, .int x4, .int x5, .int (x6 + 1)], [], (zS (up2 I 111 ((x6).toNatClampNeg) (I 109 ((x6).toNatClampNeg))) J tg))) rfl ?_
    exact h
-- X12_worn 
theorem sg_279 {L d : Nat} {xs : Nat → Int32} (I : Nat → Nat → Int32) (J : Nat → Nat → Int64) (tg : Option Nat) (a1 : Int32) (a2 : Int32) (a3 : Int32) (a4 : Int32) {r : Option Value × SS} (h : (∃ (v73 : Int32) (I74 : Nat → Nat → Int32) (J75 : Nat → Nat → Int64), Runs (GW L xs) d 179 (0, [.ref 93, .int a1], [], (zS I J tg)) ((some (.int v73)), (zS I74 J75 tg)) ∧ (if v73 = 0 then (r = (some (.int (-1)), (zS I74 J75 tg))) else (∃ (v76 : Int32) (I77 : Nat → Nat → Int32) (J78 : Nat → Nat → Int64), Runs (GW L xs) d 182 (0, [.int a2], [], (zS I74 J75 tg)) ((some (.int v76)), (zS I77 J78 tg)) ∧ (if v76 = 0 then (r = (some (.int (-1)), (zS I77 J78 tg))) else (∃ (v79 : Int32) (I80 : Nat → Nat → Int32) (J81 : Nat → Nat → Int64), Runs (GW L xs) d 184 (0, [.ref 93, .int a1, .int 0], [], (zS I77 J78 tg)) ((some (.int v79)), (zS I80 J81 tg)) ∧ ∃ (v82 : Int32) (I83 : Nat → Nat → Int32) (J84 : Nat → Nat → Int64), Runs (GW L xs) d 177 (0, [.int a3, .int 0, .int v79], [], (zS I80 J81 tg)) ((some (.int v82)), (zS I83 J84 tg)) ∧ (if v82 = 0 then (r = (some (.int (-1)), (zS I83 J84 tg))) else (∃ (v85 : Int32) (I86 : Nat → Nat → Int32) (J87 : Nat → Nat → Int64), Runs (GW L xs) d 177 (0, [.int a4, .int 0, .int 1], [], (zS I83 J84 tg)) ((some (.int v85)), (zS I86 J87 tg)) ∧ (if v85 = 0 then (r = (some (.int (-1)), (zS I86 J87 tg))) else (Runs (GW L xs) (d + 1) 279 (50, [.ref 93, .int a1, .int a2, .int a3, .int a4, .int (-1), .int 0, .int 0, vU], [], (zS I86 J87 tg)) r)))))))))) : Runs (GW L xs) (d + 1) 279 (0, [.ref 93, .int a1, .int a2, .int a3, .int a4, vU, vU, vU, vU], [], (zS I J tg)) r := by
  refine Runs.sN 2 (c' := (2, [.ref 93, .int a1, .int a2, .int a3, .int a4, vU, vU, vU, vU], [.int a1, .ref 93], (zS I J tg))) rfl ?_
  obtain ⟨v73, I74, J75, c88, h⟩ := h
  refine Runs.cl (cm := 179) (as := [.ref 93, .int a1]) (rest := []) (r1 := ((some (.int v73)), (zS I74 J75 tg))) rfl (Nat.le_of_ble_eq_true rfl) c88 ?_
  refine Runs.as (c' := (5, [.ref 93, .int a1, .int a2, .int a3, .int a4, vU, vU, vU, vU], [.int v73], (zS I74 J75 tg))) rfl ?_
  by_cases c89 : v73 = 0
  · rw [if_pos c89] at h
    refine Runs.brT (P := v73 = 0) (a := 39) (b := 8) (L := [.ref 93, .int a1, .int a2, .int a3, .int a4, vU, vU, vU, vU]) (S := []) (z := (zS I74 J75 tg)) rfl c89 ?_
    refine Runs.sN 1 (c' := (40, [.ref 93, .int a1, .int a2, .int a3, .int a4, vU, vU, vU, vU], [.int (-1)], (zS I74 J75 tg))) rfl ?_
    subst h
    exact Runs.rt rfl
  · rw [if_neg c89] at h
    refine Runs.brF (P := v73 = 0) (a := 39) (b := 8) (L := [.ref 93, .int a1, .int a2, .int a3, .int a4, vU, vU, vU, vU]) (S := []) (z := (zS I74 J75 tg)) rfl c89 ?_
    refine Runs.sN 1 (c' := (9, [.ref 93, .int a1, .int a2, .int a3, .int a4, vU, vU, vU, vU], [.int a2], (zS I74 J75 tg))) rfl ?_
    obtain ⟨v76, I77, J78, c90, h⟩ := h
    refine Runs.cl (cm := 182) (as := [.int a2]) (rest := []) (r1 := ((some (.int v76)), (zS I77 J78 tg))) rfl (Nat.le_of_ble_eq_true rfl) c90 ?_
    refine Runs.as (c' := (12, [.ref 93, .int a1, .int a2, .int a3, .int a4, vU, vU, vU, vU], [.int v76], (zS I77 J78 tg))) rfl ?_
    by_cases c91 : v76 = 0
    · rw [if_pos c91] at h
      refine Runs.brT (P := v76 = 0) (a := 39) (b := 15) (L := [.ref 93, .int a1, .int a2, .int a3, .int a4, vU, vU, vU, vU]) (S := []) (z := (zS I77 J78 tg)) rfl c91 ?_
      refine Runs.sN 1 (c' := (40, [.ref 93, .int a1, .int a2, .int a3, .int a4, vU, vU, vU, vU], [.int (-1)], (zS I77 J78 tg))) rfl ?_
      subst h
      exact Runs.rt rfl
    · rw [if_neg c91] at h
      refine Runs.brF (P := v76 = 0) (a := 39) (b := 15) (L := [.ref 93, .int a1, .int a2, .int a3, .int a4, vU, vU, vU, vU]) (S := []) (z := (zS I77 J78 tg)) rfl c91 ?_
      refine Runs.sN 5 (c' := (20, [.ref 93, .int a1, .int a2, .int a3, .int a4, vU, vU, vU, vU], [.int 0, .int a1, .ref 93, .int 0, .int a3], (zS I77 J78 tg))) rfl ?_
      obtain ⟨v79, I80, J81, c92, h⟩ := h
      refine Runs.cl (cm := 184) (as := [.ref 93, .int a1, .int 0]) (rest := [.int 0, .int a3]) (r1 := ((some (.int v79)), (zS I80 J81 tg))) rfl (Nat.le_of_ble_eq_true rfl) c92 ?_
      refine Runs.as (c' := (23, [.ref 93, .int a1, .int a2, .int a3, .int a4, vU, vU, vU, vU], [.int v79, .int 0, .int a3], (zS I80 J81 tg))) rfl ?_
      obtain ⟨v82, I83, J84, c93, h⟩ := h
      refine Runs.cl (cm := 177) (as := [.int a3, .int 0, .int v79]) (rest := []) (r1 := ((some (.int v82)), (zS I83 J84 tg))) rfl (Nat.le_of_ble_eq_true rfl) c93 ?_
      refine Runs.as (c' := (26, [.ref 93, .int a1, .int a2, .int a3, .int a4, vU, vU, vU, vU], [.int v82], (zS I83 J84 tg))) rfl ?_
      by_cases c94 : v82 = 0
      · rw [if_pos c94] at h
        refine Runs.brT (P := v82 = 0) (a := 39) (b := 29) (L := [.ref 93, .int a1, .int a2, .int a3, .int a4, vU, vU, vU, vU]) (S := []) (z := (zS I83 J84 tg)) rfl c94 ?_
        refine Runs.sN 1 (c' := (40, [.ref 93, .int a1, .int a2, .int a3, .int a4, vU, vU, vU, vU], [.int (-1)], (zS I83 J84 tg))) rfl ?_
        subst h
        exact Runs.rt rfl
      · rw [if_neg c94] at h
        refine Runs.brF (P := v82 = 0) (a := 39) (b := 29) (L := [.ref 93, .int a1, .int a2, .int a3, .int a4, vU, vU, vU, vU]) (S := []) (z := (zS I83 J84 tg)) rfl c94 ?_
        refine Runs.sN 3 (c' := (33, [.ref 93, .int a1, .int a2, .int a3, .int a4, vU, vU, vU, vU], [.int 1, .int 0, .int a4], (zS I83 J84 tg))) rfl ?_
        obtain ⟨v85, I86, J87, c95, h⟩ := h
        refine Runs.cl (cm := 177) (as := [.int a4, .int 0, .int 1]) (rest := []) (r1 := ((some (.int v85)), (zS I86 J87 tg))) rfl (Nat.le_of_ble_eq_true rfl) c95 ?_
        refine Runs.as (c' := (36, [.ref 93, .int a1, .int a2, .int a3, .int a4, vU, vU, vU, vU], [.int v85], (zS I86 J87 tg))) rfl ?_
        by_cases c96 : v85 = 0
        · rw [if_pos c96] at h
          refine Runs.brT (P := v85 = 0) (a := 39) (b := 41) (L := [.ref 93, .int a1, .int a2, .int a3, .int a4, vU, vU, vU, vU]) (S := []) (z := (zS I86 J87 tg)) rfl c96 ?_
          refine Runs.sN 1 (c' := (40, [.ref 93, .int a1, .int a2, .int a3, .int a4, vU, vU, vU, vU], [.int (-1)], (zS I86 J87 tg))) rfl ?_
          subst h
          exact Runs.rt rfl
        · rw [if_neg c96] at h
          refine Runs.brF (P := v85 = 0) (a := 39) (b := 41) (L := [.ref 93, .int a1, .int a2, .int a3, .int a4, vU, vU, vU, vU]) (S := []) (z := (zS I86 J87 tg)) rfl c96 ?_
          refine Runs.sN 6 (c' := (50, [.ref 93, .int a1, .int a2, .int a3, .int a4, .int (-1), .int 0, .int 0, vU], [], (zS I86 J87 tg))) rfl ?_
          exact h
theorem sg_279_50 {L d : Nat} {xs : Nat → Int32} (I : Nat → Nat → Int32) (J : Nat → Nat → Int64) (tg : Option Nat) (x1 : Int32) (x2 : Int32) (x3 : Int32) (x4 : Int32) (x5 : Int32) (x6 : Int32) (x7 : Int32) {r : Option Value × SS} (h : (∃ (v1 : Int32) (I2 : Nat → Nat → Int32) (J3 : Nat → Nat → Int64), Runs (GW L xs) d 184 (0, [.ref 93, .int x1, .int 0], [], (zS I J tg)) ((some (.int v1)), (zS I2 J3 tg)) ∧ (if (1 <<< (v1 &&& 31)) ≤ x7 then ((if x4 = 0 then (r = (some (.int x6), (zS I2 J3 tg))) else (r = (some (.int x5), (zS I2 J3 tg))))) else (∃ (v4 : Int32) (I5 : Nat → Nat → Int32) (J6 : Nat → Nat → Int64), Runs (GW L xs) d 185 (0, [.int x7, vU, vU], [], (zS I2 J3 tg)) ((some (.int v4)), (zS I5 J6 tg)) ∧ (if v4 = x3 then (∃ (I7 : Nat → Nat → Int32) (J8 : Nat → Nat → Int64), Runs (GW L xs) d 257 (0, [.ref 93, .int x1, vU], [], (zS I5 J6 tg)) (none, (zS I7 J8 tg)) ∧ Runs (GW L xs) (d + 1) 279 (83, [.ref 93, .int x1, .int x2, .int x3, .int x4, .int x5, .int x6, .int x7, .int 0], [], (zS I7 J8 tg)) r) else (Runs (GW L xs) (d + 1) 279 (50, [.ref 93, .int x1, .int x2, .int x3, .int x4, .int x5, .int x6, .int (x7 + 1), vU], [], (zS I5 J6 tg)) r)))))) : Runs (GW L xs) (d + 1) 279 (50, [.ref 93, .int x1, .int x2, .int x3, .int x4, .int x5, .int x6, .int x7, vU], [], (zS I J tg)) r := by
  refine Runs.sN 5 (c' := (56, [.ref 93, .int x1, .int x2, .int x3, .int x4, .int x5, .int x6, .int x7, vU], [.int 0, .int x1, .ref 93, .int 1, .int x7], (zS I J tg))) rfl ?_
  obtain ⟨v1, I2, J3, c9, h⟩ := h
  refine Runs.cl (cm := 184) (as := [.ref 93, .int x1, .int 0]) (rest := [.int 1, .int x7]) (r1 := ((some (.int v1)), (zS I2 J3 tg))) rfl (Nat.le_of_ble_eq_true rfl) c9 ?_
  refine Runs.as (c' := (59, [.ref 93, .int x1, .int x2, .int x3, .int x4, .int x5, .int x6, .int x7, vU], [.int v1, .int 1, .int x7], (zS I2 J3 tg))) rfl ?_
  refine Runs.sN 1 (c' := (60, [.ref 93, .int x1, .int x2, .int x3, .int x4, .int x5, .int x6, .int x7, vU], [.int (1 <<< (v1 &&& 31)), .int x7], (zS I2 J3 tg))) rfl ?_
  by_cases c10 : (1 <<< (v1 &&& 31)) ≤ x7
  · rw [if_pos c10] at h
    refine Runs.brT (P := (1 <<< (v1 &&& 31)) ≤ x7) (a := 164) (b := 63) (L := [.ref 93, .int x1, .int x2, .int x3, .int x4, .int x5, .int x6, .int x7, vU]) (S := []) (z := (zS I2 J3 tg)) rfl c10 ?_
    refine Runs.sN 1 (c' := (166, [.ref 93, .int x1, .int x2, .int x3, .int x4, .int x5, .int x6, .int x7, vU], [.int x4], (zS I2 J3 tg))) rfl ?_
    by_cases c11 : x4 = 0
    · rw [if_pos c11] at h
      refine Runs.brT (P := x4 = 0) (a := 169) (b := 174) (L := [.ref 93, .int x1, .int x2, .int x3, .int x4, .int x5, .int x6, .int x7, vU]) (S := []) (z := (zS I2 J3 tg)) rfl c11 ?_
      refine Runs.sN 2 (c' := (176, [.ref 93, .int x1, .int x2, .int x3, .int x4, .int x5, .int x6, .int x7, vU], [.int x6], (zS I2 J3 tg))) rfl ?_
      subst h
      exact Runs.rt rfl
    · rw [if_neg c11] at h
      refine Runs.brF (P := x4 = 0) (a := 169) (b := 174) (L := [.ref 93, .int x1, .int x2, .int x3, .int x4, .int x5, .int x6, .int x7, vU]) (S := []) (z := (zS I2 J3 tg)) rfl c11 ?_
      refine Runs.sN 1 (c' := (176, [.ref 93, .int x1, .int x2, .int x3, .int x4, .int x5, .int x6, .int x7, vU], [.int x5], (zS I2 J3 tg))) rfl ?_
      subst h
      exact Runs.rt rfl
  · rw [if_neg c10] at h
    refine Runs.brF (P := (1 <<< (v1 &&& 31)) ≤ x7) (a := 164) (b := 63) (L := [.ref 93, .int x1, .int x2, .int x3, .int x4, .int x5, .int x6, .int x7, vU]) (S := []) (z := (zS I2 J3 tg)) rfl c10 ?_
    refine Runs.sN 1 (c' := (65, [.ref 93, .int x1, .int x2, .int x3, .int x4, .int x5, .int x6, .int x7, vU], [.int x7], (zS I2 J3 tg))) rfl ?_
    obtain ⟨v4, I5, J6, c12, h⟩ := h
    refine Runs.cl (cm := 185) (as := [.int x7]) (rest := []) (r1 := ((some (.int v4)), (zS I5 J6 tg))) rfl (Nat.le_of_ble_eq_true rfl) c12 ?_
    refine Runs.as (c' := (68, [.ref 93, .int x1, .int x2, .int x3, .int x4, .int x5, .int x6, .int x7, vU], [.int v4], (zS I5 J6 tg))) rfl ?_
    refine Runs.sN 1 (c' := (69, [.ref 93, .int x1, .int x2, .int x3, .int x4, .int x5, .int x6, .int x7, vU], [.int x3, .int v4], (zS I5 J6 tg))) rfl ?_
    by_cases c13 : v4 = x3
    · rw [if_pos c13] at h
      refine Runs.brT (P := v4 = x3) (a := 75) (b := 72) (L := [.ref 93, .int x1, .int x2, .int x3, .int x4, .int x5, .int x6, .int x7, vU]) (S := []) (z := (zS I5 J6 tg)) rfl c13 ?_
      refine Runs.sN 2 (c' := (77, [.ref 93, .int x1, .int x2, .int x3, .int x4, .int x5, .int x6, .int x7, vU], [.int x1, .ref 93], (zS I5 J6 tg))) rfl ?_
      obtain ⟨I7, J8, c14, h⟩ := h
      refine Runs.cl (cm := 257) (as := [.ref 93, .int x1]) (rest := []) (r1 := (none, (zS I7 J8 tg))) rfl (Nat.le_of_ble_eq_true rfl) c14 ?_
      refine Runs.as (c' := (80, [.ref 93, .int x1, .int x2, .int x3, .int x4, .int x5, .int x6, .int x7, vU], [], (zS I7 J8 tg))) rfl ?_
      refine Runs.sN 2 (c' := (83, [.ref 93, .int x1, .int x2, .int x3, .int x4, .int x5, .int x6, .int x7, .int 0], [], (zS I7 J8 tg))) rfl ?_
      exact h
    · rw [if_neg c13] at h
      refine Runs.brF (P := v4 = x3) (a := 75) (b := 72) (L := [.ref 93, .int x1, .int x2, .int x3, .int x4, .int x5, .int x6, .int x7, vU]) (S := []) (z := (zS I5 J6 tg)) rfl c13 ?_
      refine Runs.sN 3 (c' := (50, [.ref 93, .int x1, .int x2, .int x3, .int x4, .int x5, .int x6, .int (x7 + 1), vU], [], (zS I5 J6 tg))) rfl ?_
      exact h
theorem sg_279_83 {L d : Nat} {xs : Nat → Int32} (I : Nat → Nat → Int32) (J : Nat → Nat → Int64) (tg : Option Nat) (x1 : Int32) (x2 : Int32) (x3 : Int32) (x4 : Int32) (x5 : Int32) (x6 : Int32) (x7 : Int32) (x8 : Int32) {r : Option Value × SS} (h : (∃ (v1 : Int32) (I2 : Nat → Nat → Int32) (J3 : Nat → Nat → Int64), Runs (GW L xs) d 184 (0, [.ref 93, .int x1, .int 0], [], (zS I J tg)) ((some (.int v1)), (zS I2 J3 tg)) ∧ (if v1 ≤ x8 then (∃ (v4 : Int32) (I5 : Nat → Nat → Int32) (J6 : Nat → Nat → Int64), Runs (GW L xs) d 253 (0, [.ref 93, .int 24, .int x1, .int x2, vU, vU], [], (zS I2 J3 tg)) ((some (.int v4)), (zS I5 J6 tg)) ∧ (if x5 < 0 then (Runs (GW L xs) (d + 1) 279 (50, [.ref 93, .int x1, .int x2, .int x3, .int x4, .int x7, .int v4, .int (x7 + 1), vU], [], (zS I5 J6 tg)) r) else ((if v4 < x6 then (Runs (GW L xs) (d + 1) 279 (50, [.ref 93, .int x1, .int x2, .int x3, .int x4, .int x7, .int v4, .int (x7 + 1), vU], [], (zS I5 J6 tg)) r) else (Runs (GW L xs) (d + 1) 279 (50, [.ref 93, .int x1, .int x2, .int x3, .int x4, .int x5, .int x6, .int (x7 + 1), vU], [], (zS I5 J6 tg)) r))))) else ((if ((x7 >>> (x8 &&& 31)) &&& 1) = 0 then (∃ (v7 : Int32) (I8 : Nat → Nat → Int32) (J9 : Nat → Nat → Int64), Runs (GW L xs) d 184 (0, [.ref 93, .int x1, .int (4 + x8)], [], (zS I2 J3 tg)) ((some (.int v7)), (zS I8 J9 tg)) ∧ ∃ (I10 : Nat → Nat → Int32) (J11 : Nat → Nat → Int64), Runs (GW L xs) d 189 (0, [.ref 93, .int 24, .int v7, vU], [], (zS I8 J9 tg)) (none, (zS I10 J11 tg)) ∧ Runs (GW L xs) (d + 1) 279 (83, [.ref 93, .int x1, .int x2, .int x3, .int x4, .int x5, .int x6, .int x7, .int (x8 + 1)], [], (zS I10 J11 tg)) r) else (Runs (GW L xs) (d + 1) 279 (83, [.ref 93, .int x1, .int x2, .int x3, .int x4, .int x5, .int x6, .int x7, .int (x8 + 1)], [], (zS I2 J3 tg)) r)))))) : Runs (GW L xs) (d + 1) 279 (83, [.ref 93, .int x1, .int x2, .int x3, .int x4, .int x5, .int x6, .int x7, .int x8], [], (zS I J tg)) r := by
  refine Runs.sN 4 (c' := (88, [.ref 93, .int x1, .int x2, .int x3, .int x4, .int x5, .int x6, .int x7, .int x8], [.int 0, .int x1, .ref 93, .int x8], (zS I J tg))) rfl ?_
  obtain ⟨v1, I2, J3, c12, h⟩ := h
  refine Runs.cl (cm := 184) (as := [.ref 93, .int x1, .int 0]) (rest := [.int x8]) (r1 := ((some (.int v1)), (zS I2 J3 tg))) rfl (Nat.le_of_ble_eq_true rfl) c12 ?_
  refine Runs.as (c' := (91, [.ref 93, .int x1, .int x2, .int x3, .int x4, .int x5, .int x6, .int x7, .int x8], [.int v1, .int x8], (zS I2 J3 tg))) rfl ?_
  by_cases c13 : v1 ≤ x8
  · rw [if_pos c13] at h
    refine Runs.brT (P := v1 ≤ x8) (a := 125) (b := 94) (L := [.ref 93, .int x1, .int x2, .int x3, .int x4, .int x5, .int x6, .int x7, .int x8]) (S := []) (z := (zS I2 J3 tg)) rfl c13 ?_
    refine Runs.sN 4 (c' := (130, [.ref 93, .int x1, .int x2, .int x3, .int x4, .int x5, .int x6, .int x7, .int x8], [.int x2, .int x1, .int 24, .ref 93], (zS I2 J3 tg))) rfl ?_
    obtain ⟨v4, I5, J6, c14, h⟩ := h
    refine Runs.cl (cm := 253) (as := [.ref 93, .int 24, .int x1, .int x2]) (rest := []) (r1 := ((some (.int v4)), (zS I5 J6 tg))) rfl (Nat.le_of_ble_eq_true rfl) c14 ?_
    refine Runs.as (c' := (133, [.ref 93, .int x1, .int x2, .int x3, .int x4, .int x5, .int x6, .int x7, .int x8], [.int v4], (zS I5 J6 tg))) rfl ?_
    refine Runs.sN 2 (c' := (137, [.ref 93, .int x1, .int x2, .int x3, .int x4, .int x5, .int x6, .int x7, .int v4], [.int x5], (zS I5 J6 tg))) rfl ?_
    by_cases c15 : x5 < 0
    · rw [if_pos c15] at h
      refine Runs.brT (P := x5 < 0) (a := 150) (b := 140) (L := [.ref 93, .int x1, .int x2, .int x3, .int x4, .int x5, .int x6, .int x7, .int v4]) (S := []) (z := (zS I5 J6 tg)) rfl c15 ?_
      refine Runs.sN 6 (c' := (50, [.ref 93, .int x1, .int x2, .int x3, .int x4, .int x7, .int v4, .int (x7 + 1), .int v4], [], (zS I5 J6 tg))) rfl ?_
      exact Runs.weak (L := [.ref 93, .int x1, .int x2, .int x3, .int x4, .int x7, .int v4, .int (x7 + 1), vU]) (Lle.k (Lle.k (Lle.k (Lle.k (Lle.k (Lle.k (Lle.k (Lle.k (Lle.u Lle.n))))))))) h
    · rw [if_neg c15] at h
      refine Runs.brF (P := x5 < 0) (a := 150) (b := 140) (L := [.ref 93, .int x1, .int x2, .int x3, .int x4, .int x5, .int x6, .int x7, .int v4]) (S := []) (z := (zS I5 J6 tg)) rfl c15 ?_
      refine Runs.sN 2 (c' := (144, [.ref 93, .int x1, .int x2, .int x3, .int x4, .int x5, .int x6, .int x7, .int v4], [.int x6, .int v4], (zS I5 J6 tg))) rfl ?_
      by_cases c16 : v4 < x6
      · rw [if_pos c16] at h
        refine Runs.brT (P := v4 < x6) (a := 150) (b := 147) (L := [.ref 93, .int x1, .int x2, .int x3, .int x4, .int x5, .int x6, .int x7, .int v4]) (S := []) (z := (zS I5 J6 tg)) rfl c16 ?_
        refine Runs.sN 6 (c' := (50, [.ref 93, .int x1, .int x2, .int x3, .int x4, .int x7, .int v4, .int (x7 + 1), .int v4], [], (zS I5 J6 tg))) rfl ?_
        exact Runs.weak (L := [.ref 93, .int x1, .int x2, .int x3, .int x4, .int x7, .int v4, .int (x7 + 1), vU]) (Lle.k (Lle.k (Lle.k (Lle.k (Lle.k (Lle.k (Lle.k (Lle.k (Lle.u Lle.n))))))))) h
      · rw [if_neg c16] at h
        refine Runs.brF (P := v4 < x6) (a := 150) (b := 147) (L := [.ref 93, .int x1, .int x2, .int x3, .int x4, .int x5, .int x6, .int x7, .int v4]) (S := []) (z := (zS I5 J6 tg)) rfl c16 ?_
        refine Runs.sN 3 (c' := (50, [.ref 93, .int x1, .int x2, .int x3, .int x4, .int x5, .int x6, .int (x7 + 1), .int v4], [], (zS I5 J6 tg))) rfl ?_
        exact Runs.weak (L := [.ref 93, .int x1, .int x2, .int x3, .int x4, .int x5, .int x6, .int (x7 + 1), vU]) (Lle.k (Lle.k (Lle.k (Lle.k (Lle.k (Lle.k (Lle.k (Lle.k (Lle.u Lle.n))))))))) h
  · rw [if_neg c13] at h
    refine Runs.brF (P := v1 ≤ x8) (a := 125) (b := 94) (L := [.ref 93, .int x1, .int x2, .int x3, .int x4, .int x5, .int x6, .int x7, .int x8]) (S := []) (z := (zS I2 J3 tg)) rfl c13 ?_
    refine Runs.sN 5 (c' := (101, [.ref 93, .int x1, .int x2, .int x3, .int x4, .int x5, .int x6, .int x7, .int x8], [.int ((x7 >>> (x8 &&& 31)) &&& 1)], (zS I2 J3 tg))) rfl ?_
    by_cases c17 : ((x7 >>> (x8 &&& 31)) &&& 1) = 0
    · rw [if_pos c17] at h
      refine Runs.brT (P := ((x7 >>> (x8 &&& 31)) &&& 1) = 0) (a := 104) (b := 119) (L := [.ref 93, .int x1, .int x2, .int x3, .int x4, .int x5, .int x6, .int x7, .int x8]) (S := []) (z := (zS I2 J3 tg)) rfl c17 ?_
      refine Runs.sN 7 (c' := (113, [.ref 93, .int x1, .int x2, .int x3, .int x4, .int x5, .int x6, .int x7, .int x8], [.int (4 + x8), .int x1, .ref 93, .int 24, .ref 93], (zS I2 J3 tg))) rfl ?_
      obtain ⟨v7, I8, J9, c18, h⟩ := h
      refine Runs.cl (cm := 184) (as := [.ref 93, .int x1, .int (4 + x8)]) (rest := [.int 24, .ref 93]) (r1 := ((some (.int v7)), (zS I8 J9 tg))) rfl (Nat.le_of_ble_eq_true rfl) c18 ?_
      refine Runs.as (c' := (116, [.ref 93, .int x1, .int x2, .int x3, .int x4, .int x5, .int x6, .int x7, .int x8], [.int v7, .int 24, .ref 93], (zS I8 J9 tg))) rfl ?_
      obtain ⟨I10, J11, c19, h⟩ := h
      refine Runs.cl (cm := 189) (as := [.ref 93, .int 24, .int v7]) (rest := []) (r1 := (none, (zS I10 J11 tg))) rfl (Nat.le_of_ble_eq_true rfl) c19 ?_
      refine Runs.as (c' := (119, [.ref 93, .int x1, .int x2, .int x3, .int x4, .int x5, .int x6, .int x7, .int x8], [], (zS I10 J11 tg))) rfl ?_
      refine Runs.sN 2 (c' := (83, [.ref 93, .int x1, .int x2, .int x3, .int x4, .int x5, .int x6, .int x7, .int (x8 + 1)], [], (zS I10 J11 tg))) rfl ?_
      exact h
    · rw [if_neg c17] at h
      refine Runs.brF (P := ((x7 >>> (x8 &&& 31)) &&& 1) = 0) (a := 104) (b := 119) (L := [.ref 93, .int x1, .int x2, .int x3, .int x4, .int x5, .int x6, .int x7, .int x8]) (S := []) (z := (zS I2 J3 tg)) rfl c17 ?_
      refine Runs.sN 2 (c' := (83, [.ref 93, .int x1, .int x2, .int x3, .int x4, .int x5, .int x6, .int x7, .int (x8 + 1)], [], (zS I2 J3 tg))) rfl ?_
      exact h
-- X12_taught 
theorem sg_280 {L d : Nat} {xs : Nat → Int32} (I : Nat → Nat → Int32) (J : Nat → Nat → Int64) (tg : Option Nat) (a1 : Int32) {r : Option Value × SS} (h : ((if (a1 + (I 94 14)) ≤ 1000 then (r = (some (.int (a1 + (I 94 14))), (zS I J tg))) else (r = (some (.int 1000), (zS I J tg)))))) : Runs (GW L xs) d 280 (0, [.ref 93, .int a1], [], (zS I J tg)) r := by
  refine Runs.sN 7 (c' := (12, [.ref 93, .int a1], [.int 1000, .int (a1 + (I 94 14))], (zS I J tg))) rfl ?_
  by_cases c1 : (a1 + (I 94 14)) ≤ 1000
  · rw [if_pos c1] at h
    refine Runs.brT (P := (a1 + (I 94 14)) ≤ 1000) (a := 21) (b := 15) (L := [.ref 93, .int a1]) (S := []) (z := (zS I J tg)) rfl c1 ?_
    refine Runs.sN 6 (c' := (30, [.ref 93, .int a1], [.int (a1 + (I 94 14))], (zS I J tg))) rfl ?_
    subst h
    exact Runs.rt rfl
  · rw [if_neg c1] at h
    refine Runs.brF (P := (a1 + (I 94 14)) ≤ 1000) (a := 21) (b := 15) (L := [.ref 93, .int a1]) (S := []) (z := (zS I J tg)) rfl c1 ?_
    refine Runs.sN 2 (c' := (30, [.ref 93, .int a1], [.int 1000], (zS I J tg))) rfl ?_
    subst h
    exact Runs.rt rfl
-- X12_faded 
theorem sg_281 {L d : Nat} {xs : Nat → Int32} (I : Nat → Nat → Int32) (J : Nat → Nat → Int64) (tg : Option Nat) (a1 : Int32) (a2 : Int32) {r : Option Value × SS} (h : (Runs (GW L xs) d 281 (5, [.ref 93, .int a1, .int a2, .int a1, .int 0], [], (zS I J tg)) r)) : Runs (GW L xs) d 281 (0, [.ref 93, .int a1, .int a2, vU, vU], [], (zS I J tg)) r := by
  refine Runs.sN 4 (c' := (5, [.ref 93, .int a1, .int a2, .int a1, .int 0], [], (zS I J tg))) rfl ?_
  exact h
theorem sg_281_5 {L d : Nat} {xs : Nat → Int32} (I : Nat → Nat → Int32) (J : Nat → Nat → Int64) (tg : Option Nat) (x1 : Int32) (x2 : Int32) (x3 : Int32) (x4 : Int32) {r : Option Value × SS} (h : ((if x2 ≤ x4 then (r = (some (.int x3), (zS I J tg))) else (Runs (GW L xs) d 281 (5, [.ref 93, .int x1, .int x2, .int (x3 - ((x3 * (I 94 15)) / 1000)), .int (x4 + 1)], [], (zS I J tg)) r)))) : Runs (GW L xs) d 281 (5, [.ref 93, .int x1, .int x2, .int x3, .int x4], [], (zS I J tg)) r := by
  refine Runs.sN 2 (c' := (8, [.ref 93, .int x1, .int x2, .int x3, .int x4], [.int x2, .int x4], (zS I J tg))) rfl ?_
  by_cases c1 : x2 ≤ x4
  · rw [if_pos c1] at h
    refine Runs.brT (P := x2 ≤ x4) (a := 33) (b := 11) (L := [.ref 93, .int x1, .int x2, .int x3, .int x4]) (S := []) (z := (zS I J tg)) rfl c1 ?_
    refine Runs.sN 1 (c' := (34, [.ref 93, .int x1, .int x2, .int x3, .int x4], [.int x3], (zS I J tg))) rfl ?_
    subst h
    exact Runs.rt rfl
  · rw [if_neg c1] at h
    refine Runs.brF (P := x2 ≤ x4) (a := 33) (b := 11) (L := [.ref 93, .int x1, .int x2, .int x3, .int x4]) (S := []) (z := (zS I J tg)) rfl c1 ?_
    refine Runs.sN 13 (c' := (5, [.ref 93, .int x1, .int x2, .int (x3 - ((x3 * (I 94 15)) / 1000)), .int (x4 + 1)], [], (zS I J tg))) rfl ?_
    exact h
-- X12_teach 
theorem sg_282 {L d : Nat} {xs : Nat → Int32} (I : Nat → Nat → Int32) (J : Nat → Nat → Int64) (tg : Option Nat) (a1 : Int32) (a2 : Int32) {r : Option Value × SS} (h : (∃ (v10 : Int32) (I11 : Nat → Nat → Int32) (J12 : Nat → Nat → Int64), Runs (GW L xs) d 179 (0, [.ref 93, .int a1], [], (zS I J tg)) ((some (.int v10)), (zS I11 J12 tg)) ∧ (if v10 = 0 then (r = (some (.int (-1)), (zS I11 J12 tg))) else (∃ (v13 : Int32) (I14 : Nat → Nat → Int32) (J15 : Nat → Nat → Int64), Runs (GW L xs) d 182 (0, [.int a2], [], (zS I11 J12 tg)) ((some (.int v13)), (zS I14 J15 tg)) ∧ (if v13 = 0 then (r = (some (.int (-1)), (zS I14 J15 tg))) else (¬ (((600 + (6 * a1)) + a2) < 0 ∨ 1200 ≤ ((600 + (6 * a1)) + a2).toNatClampNeg) ∧ ∃ (v16 : Int32) (I17 : Nat → Nat → Int32) (J18 : Nat → Nat → Int64), Runs (GW L xs) d 280 (0, [.ref 93, .int (I14 94 (((600 + (6 * a1)) + a2).toNatClampNeg))], [], (zS I14 J15 tg)) ((some (.int v16)), (zS I17 J18 tg)) ∧ ¬ (((600 + (6 * a1)) + a2) < 0 ∨ 1200 ≤ ((600 + (6 * a1)) + a2).toNatClampNeg) ∧ ¬ (((600 + (6 * a1)) + a2) < 0 ∨ 1200 ≤ ((600 + (6 * a1)) + a2).toNatClampNeg) ∧ r = (some (.int ((up2 I17 94 (((600 + (6 * a1)) + a2).toNatClampNeg) v16) 94 (((600 + (6 * a1)) + a2).toNatClampNeg))), (zS (up2 I17 94 (((600 + (6 * a1)) + a2).toNatClampNeg) v16) J18 tg)))))))) : Runs (GW L xs) (d + 1) 282 (0, [.ref 93, .int a1, .int a2], [], (zS I J tg)) r := by
  refine Runs.sN 2 (c' := (2, [.ref 93, .int a1, .int a2], [.int a1, .ref 93], (zS I J tg))) rfl ?_
  obtain ⟨v10, I11, J12, c19, h⟩ := h
  refine Runs.cl (cm := 179) (as := [.ref 93, .int a1]) (rest := []) (r1 := ((some (.int v10)), (zS I11 J12 tg))) rfl (Nat.le_of_ble_eq_true rfl) c19 ?_
  refine Runs.as (c' := (5, [.ref 93, .int a1, .int a2], [.int v10], (zS I11 J12 tg))) rfl ?_
  by_cases c20 : v10 = 0
  · rw [if_pos c20] at h
    refine Runs.brT (P := v10 = 0) (a := 15) (b := 8) (L := [.ref 93, .int a1, .int a2]) (S := []) (z := (zS I11 J12 tg)) rfl c20 ?_
    refine Runs.sN 1 (c' := (16, [.ref 93, .int a1, .int a2], [.int (-1)], (zS I11 J12 tg))) rfl ?_
    subst h
    exact Runs.rt rfl
  · rw [if_neg c20] at h
    refine Runs.brF (P := v10 = 0) (a := 15) (b := 8) (L := [.ref 93, .int a1, .int a2]) (S := []) (z := (zS I11 J12 tg)) rfl c20 ?_
    refine Runs.sN 1 (c' := (9, [.ref 93, .int a1, .int a2], [.int a2], (zS I11 J12 tg))) rfl ?_
    obtain ⟨v13, I14, J15, c21, h⟩ := h
    refine Runs.cl (cm := 182) (as := [.int a2]) (rest := []) (r1 := ((some (.int v13)), (zS I14 J15 tg))) rfl (Nat.le_of_ble_eq_true rfl) c21 ?_
    refine Runs.as (c' := (12, [.ref 93, .int a1, .int a2], [.int v13], (zS I14 J15 tg))) rfl ?_
    by_cases c22 : v13 = 0
    · rw [if_pos c22] at h
      refine Runs.brT (P := v13 = 0) (a := 15) (b := 17) (L := [.ref 93, .int a1, .int a2]) (S := []) (z := (zS I14 J15 tg)) rfl c22 ?_
      refine Runs.sN 1 (c' := (16, [.ref 93, .int a1, .int a2], [.int (-1)], (zS I14 J15 tg))) rfl ?_
      subst h
      exact Runs.rt rfl
    · rw [if_neg c22] at h
      refine Runs.brF (P := v13 = 0) (a := 15) (b := 17) (L := [.ref 93, .int a1, .int a2]) (S := []) (z := (zS I14 J15 tg)) rfl c22 ?_
      refine Runs.sN 19 (c' := (46, [.ref 93, .int a1, .int a2], [.int ((600 + (6 * a1)) + a2), .ref 94, .ref 93, .int ((600 + (6 * a1)) + a2), .ref 94], (zS I14 J15 tg))) rfl ?_
      obtain ⟨c23, h⟩ := h
      refine Runs.to (c' := (47, [.ref 93, .int a1, .int a2], [.int (I14 94 (((600 + (6 * a1)) + a2).toNatClampNeg)), .ref 93, .int ((600 + (6 * a1)) + a2), .ref 94], (zS I14 J15 tg))) (Runs.ild rfl (show (94 : Nat) < 114 by decide) rfl c23) ?_
      obtain ⟨v16, I17, J18, c24, h⟩ := h
      refine Runs.cl (cm := 280) (as := [.ref 93, .int (I14 94 (((600 + (6 * a1)) + a2).toNatClampNeg))]) (rest := [.int ((600 + (6 * a1)) + a2), .ref 94]) (r1 := ((some (.int v16)), (zS I17 J18 tg))) rfl (Nat.le_of_ble_eq_true rfl) c24 ?_
      refine Runs.as (c' := (50, [.ref 93, .int a1, .int a2], [.int v16, .int ((600 + (6 * a1)) + a2), .ref 94], (zS I17 J18 tg))) rfl ?_
      obtain ⟨c25, h⟩ := h
      refine Runs.to (c' := (51, [.ref 93, .int a1, .int a2], [], (zS (up2 I17 94 (((600 + (6 * a1)) + a2).toNatClampNeg) v16) J18 tg))) (Runs.ist rfl (show (94 : Nat) < 114 by decide) rfl c25) ?_
      refine Runs.sN 9 (c' := (65, [.ref 93, .int a1, .int a2], [.int ((600 + (6 * a1)) + a2), .ref 94], (zS (up2 I17 94 (((600 + (6 * a1)) + a2).toNatClampNeg) v16) J18 tg))) rfl ?_
      obtain ⟨c26, h⟩ := h
      refine Runs.to (c' := (66, [.ref 93, .int a1, .int a2], [.int ((up2 I17 94 (((600 + (6 * a1)) + a2).toNatClampNeg) v16) 94 (((600 + (6 * a1)) + a2).toNatClampNeg))], (zS (up2 I17 94 (((600 + (6 * a1)) + a2).toNatClampNeg) v16) J18 tg))) (Runs.ild rfl (show (94 : Nat) < 114 by decide) rfl c26) ?_
      subst h
      exact Runs.rt rfl
-- X12_weeks 
theorem sg_283 {L d : Nat} {xs : Nat → Int32} (I : Nat → Nat → Int32) (J : Nat → Nat → Int64) (tg : Option Nat) (a1 : Int32) {r : Option Value × SS} (h : (∃ (v10 : Int32) (I11 : Nat → Nat → Int32) (J12 : Nat → Nat → Int64), Runs (GW L xs) d 177 (0, [.int a1, .int 1, .int 50], [], (zS I J tg)) ((some (.int v10)), (zS I11 J12 tg)) ∧ (if v10 = 0 then (r = (some (.int (-1)), (zS I11 J12 tg))) else (Runs (GW L xs) (d + 1) 283 (14, [.ref 93, .int a1, .int 0], [], (zS I11 J12 tg)) r)))) : Runs (GW L xs) (d + 1) 283 (0, [.ref 93, .int a1, vU], [], (zS I J tg)) r := by
  refine Runs.sN 3 (c' := (4, [.ref 93, .int a1, vU], [.int 50, .int 1, .int a1], (zS I J tg))) rfl ?_
  obtain ⟨v10, I11, J12, c13, h⟩ := h
  refine Runs.cl (cm := 177) (as := [.int a1, .int 1, .int 50]) (rest := []) (r1 := ((some (.int v10)), (zS I11 J12 tg))) rfl (Nat.le_of_ble_eq_true rfl) c13 ?_
  refine Runs.as (c' := (7, [.ref 93, .int a1, vU], [.int v10], (zS I11 J12 tg))) rfl ?_
  by_cases c14 : v10 = 0
  · rw [if_pos c14] at h
    refine Runs.brT (P := v10 = 0) (a := 10) (b := 12) (L := [.ref 93, .int a1, vU]) (S := []) (z := (zS I11 J12 tg)) rfl c14 ?_
    refine Runs.sN 1 (c' := (11, [.ref 93, .int a1, vU], [.int (-1)], (zS I11 J12 tg))) rfl ?_
    subst h
    exact Runs.rt rfl
  · rw [if_neg c14] at h
    refine Runs.brF (P := v10 = 0) (a := 10) (b := 12) (L := [.ref 93, .int a1, vU]) (S := []) (z := (zS I11 J12 tg)) rfl c14 ?_
    refine Runs.sN 2 (c' := (14, [.ref 93, .int a1, .int 0], [], (zS I11 J12 tg))) rfl ?_
    exact h
theorem sg_283_14 {L d : Nat} {xs : Nat → Int32} (I : Nat → Nat → Int32) (J : Nat → Nat → Int64) (tg : Option Nat) (x1 : Int32) (x2 : Int32) {r : Option Value × SS} (h : ((if 72 ≤ x2 then (r = (some (.int x1), (zS I J tg))) else (¬ ((600 + x2) < 0 ∨ 1200 ≤ (600 + x2).toNatClampNeg) ∧ ∃ (v1 : Int32) (I2 : Nat → Nat → Int32) (J3 : Nat → Nat → Int64), Runs (GW L xs) d 281 (0, [.ref 93, .int (I 94 ((600 + x2).toNatClampNeg)), .int x1, vU, vU], [], (zS I J tg)) ((some (.int v1)), (zS I2 J3 tg)) ∧ ¬ ((600 + x2) < 0 ∨ 1200 ≤ (600 + x2).toNatClampNeg) ∧ Runs (GW L xs) (d + 1) 283 (14, [.ref 93, .int x1, .int (x2 + 1)], [], (zS (up2 I2 94 ((600 + x2).toNatClampNeg) v1) J3 tg)) r)))) : Runs (GW L xs) (d + 1) 283 (14, [.ref 93, .int x1, .int x2], [], (zS I J tg)) r := by
  refine Runs.sN 2 (c' := (17, [.ref 93, .int x1, .int x2], [.int 72, .int x2], (zS I J tg))) rfl ?_
  by_cases c4 : 72 ≤ x2
  · rw [if_pos c4] at h
    refine Runs.brT (P := 72 ≤ x2) (a := 51) (b := 20) (L := [.ref 93, .int x1, .int x2]) (S := []) (z := (zS I J tg)) rfl c4 ?_
    refine Runs.sN 1 (c' := (52, [.ref 93, .int x1, .int x2], [.int x1], (zS I J tg))) rfl ?_
    subst h
    exact Runs.rt rfl
  · rw [if_neg c4] at h
    refine Runs.brF (P := 72 ≤ x2) (a := 51) (b := 20) (L := [.ref 93, .int x1, .int x2]) (S := []) (z := (zS I J tg)) rfl c4 ?_
    refine Runs.sN 11 (c' := (39, [.ref 93, .int x1, .int x2], [.int (600 + x2), .ref 94, .ref 93, .int (600 + x2), .ref 94], (zS I J tg))) rfl ?_
    obtain ⟨c5, h⟩ := h
    refine Runs.to (c' := (40, [.ref 93, .int x1, .int x2], [.int (I 94 ((600 + x2).toNatClampNeg)), .ref 93, .int (600 + x2), .ref 94], (zS I J tg))) (Runs.ild rfl (show (94 : Nat) < 114 by decide) rfl c5) ?_
    refine Runs.sN 1 (c' := (41, [.ref 93, .int x1, .int x2], [.int x1, .int (I 94 ((600 + x2).toNatClampNeg)), .ref 93, .int (600 + x2), .ref 94], (zS I J tg))) rfl ?_
    obtain ⟨v1, I2, J3, c6, h⟩ := h
    refine Runs.cl (cm := 281) (as := [.ref 93, .int (I 94 ((600 + x2).toNatClampNeg)), .int x1]) (rest := [.int (600 + x2), .ref 94]) (r1 := ((some (.int v1)), (zS I2 J3 tg))) rfl (Nat.le_of_ble_eq_true rfl) c6 ?_
    refine Runs.as (c' := (44, [.ref 93, .int x1, .int x2], [.int v1, .int (600 + x2), .ref 94], (zS I2 J3 tg))) rfl ?_
    obtain ⟨c7, h⟩ := h
    refine Runs.to (c' := (45, [.ref 93, .int x1, .int x2], [], (zS (up2 I2 94 ((600 + x2).toNatClampNeg) v1) J3 tg))) (Runs.ist rfl (show (94 : Nat) < 114 by decide) rfl c7) ?_
    refine Runs.sN 2 (c' := (14, [.ref 93, .int x1, .int (x2 + 1)], [], (zS (up2 I2 94 ((600 + x2).toNatClampNeg) v1) J3 tg))) rfl ?_
    exact h
-- X12_tellings 
theorem sg_284 {L d : Nat} {xs : Nat → Int32} (I : Nat → Nat → Int32) (J : Nat → Nat → Int64) (tg : Option Nat) (a1 : Int32) (a2 : Int32) (a3 : Int32) {r : Option Value × SS} (h : (∃ (v25 : Int32) (I26 : Nat → Nat → Int32) (J27 : Nat → Nat → Int64), Runs (GW L xs) d 179 (0, [.ref 93, .int a1], [], (zS I J tg)) ((some (.int v25)), (zS I26 J27 tg)) ∧ (if v25 = 0 then (r = (some (.int (-1)), (zS I26 J27 tg))) else (∃ (v28 : Int32) (I29 : Nat → Nat → Int32) (J30 : Nat → Nat → Int64), Runs (GW L xs) d 182 (0, [.int a2], [], (zS I26 J27 tg)) ((some (.int v28)), (zS I29 J30 tg)) ∧ (if v28 = 0 then (r = (some (.int (-1)), (zS I29 J30 tg))) else (∃ (v31 : Int32) (I32 : Nat → Nat → Int32) (J33 : Nat → Nat → Int64), Runs (GW L xs) d 177 (0, [.int a3, .int 0, .int 50], [], (zS I29 J30 tg)) ((some (.int v31)), (zS I32 J33 tg)) ∧ (if v31 = 0 then (r = (some (.int (-1)), (zS I32 J33 tg))) else (¬ (((600 + (6 * a1)) + a2) < 0 ∨ 1200 ≤ ((600 + (6 * a1)) + a2).toNatClampNeg) ∧ Runs (GW L xs) (d + 1) 284 (47, [.ref 93, .int a1, .int a2, .int a3, .int (I32 94 (((600 + (6 * a1)) + a2).toNatClampNeg)), .int 0], [], (zS I32 J33 tg)) r)))))))) : Runs (GW L xs) (d + 1) 284 (0, [.ref 93, .int a1, .int a2, .int a3, vU, vU], [], (zS I J tg)) r := by
  refine Runs.sN 2 (c' := (2, [.ref 93, .int a1, .int a2, .int a3, vU, vU], [.int a1, .ref 93], (zS I J tg))) rfl ?_
  obtain ⟨v25, I26, J27, c34, h⟩ := h
  refine Runs.cl (cm := 179) (as := [.ref 93, .int a1]) (rest := []) (r1 := ((some (.int v25)), (zS I26 J27 tg))) rfl (Nat.le_of_ble_eq_true rfl) c34 ?_
  refine Runs.as (c' := (5, [.ref 93, .int a1, .int a2, .int a3, vU, vU], [.int v25], (zS I26 J27 tg))) rfl ?_
  by_cases c35 : v25 = 0
  · rw [if_pos c35] at h
    refine Runs.brT (P := v25 = 0) (a := 25) (b := 8) (L := [.ref 93, .int a1, .int a2, .int a3, vU, vU]) (S := []) (z := (zS I26 J27 tg)) rfl c35 ?_
    refine Runs.sN 1 (c' := (26, [.ref 93, .int a1, .int a2, .int a3, vU, vU], [.int (-1)], (zS I26 J27 tg))) rfl ?_
    subst h
    exact Runs.rt rfl
  · rw [if_neg c35] at h
    refine Runs.brF (P := v25 = 0) (a := 25) (b := 8) (L := [.ref 93, .int a1, .int a2, .int a3, vU, vU]) (S := []) (z := (zS I26 J27 tg)) rfl c35 ?_
    refine Runs.sN 1 (c' := (9, [.ref 93, .int a1, .int a2, .int a3, vU, vU], [.int a2], (zS I26 J27 tg))) rfl ?_
    obtain ⟨v28, I29, J30, c36, h⟩ := h
    refine Runs.cl (cm := 182) (as := [.int a2]) (rest := []) (r1 := ((some (.int v28)), (zS I29 J30 tg))) rfl (Nat.le_of_ble_eq_true rfl) c36 ?_
    refine Runs.as (c' := (12, [.ref 93, .int a1, .int a2, .int a3, vU, vU], [.int v28], (zS I29 J30 tg))) rfl ?_
    by_cases c37 : v28 = 0
    · rw [if_pos c37] at h
      refine Runs.brT (P := v28 = 0) (a := 25) (b := 15) (L := [.ref 93, .int a1, .int a2, .int a3, vU, vU]) (S := []) (z := (zS I29 J30 tg)) rfl c37 ?_
      refine Runs.sN 1 (c' := (26, [.ref 93, .int a1, .int a2, .int a3, vU, vU], [.int (-1)], (zS I29 J30 tg))) rfl ?_
      subst h
      exact Runs.rt rfl
    · rw [if_neg c37] at h
      refine Runs.brF (P := v28 = 0) (a := 25) (b := 15) (L := [.ref 93, .int a1, .int a2, .int a3, vU, vU]) (S := []) (z := (zS I29 J30 tg)) rfl c37 ?_
      refine Runs.sN 3 (c' := (19, [.ref 93, .int a1, .int a2, .int a3, vU, vU], [.int 50, .int 0, .int a3], (zS I29 J30 tg))) rfl ?_
      obtain ⟨v31, I32, J33, c38, h⟩ := h
      refine Runs.cl (cm := 177) (as := [.int a3, .int 0, .int 50]) (rest := []) (r1 := ((some (.int v31)), (zS I32 J33 tg))) rfl (Nat.le_of_ble_eq_true rfl) c38 ?_
      refine Runs.as (c' := (22, [.ref 93, .int a1, .int a2, .int a3, vU, vU], [.int v31], (zS I32 J33 tg))) rfl ?_
      by_cases c39 : v31 = 0
      · rw [if_pos c39] at h
        refine Runs.brT (P := v31 = 0) (a := 25) (b := 27) (L := [.ref 93, .int a1, .int a2, .int a3, vU, vU]) (S := []) (z := (zS I32 J33 tg)) rfl c39 ?_
        refine Runs.sN 1 (c' := (26, [.ref 93, .int a1, .int a2, .int a3, vU, vU], [.int (-1)], (zS I32 J33 tg))) rfl ?_
        subst h
        exact Runs.rt rfl
      · rw [if_neg c39] at h
        refine Runs.brF (P := v31 = 0) (a := 25) (b := 27) (L := [.ref 93, .int a1, .int a2, .int a3, vU, vU]) (S := []) (z := (zS I32 J33 tg)) rfl c39 ?_
        refine Runs.sN 9 (c' := (41, [.ref 93, .int a1, .int a2, .int a3, vU, vU], [.int ((600 + (6 * a1)) + a2), .ref 94], (zS I32 J33 tg))) rfl ?_
        obtain ⟨c40, h⟩ := h
        refine Runs.to (c' := (42, [.ref 93, .int a1, .int a2, .int a3, vU, vU], [.int (I32 94 (((600 + (6 * a1)) + a2).toNatClampNeg))], (zS I32 J33 tg))) (Runs.ild rfl (show (94 : Nat) < 114 by decide) rfl c40) ?_
        refine Runs.sN 3 (c' := (47, [.ref 93, .int a1, .int a2, .int a3, .int (I32 94 (((600 + (6 * a1)) + a2).toNatClampNeg)), .int 0], [], (zS I32 J33 tg))) rfl ?_
        exact h
theorem sg_284_47 {L d : Nat} {xs : Nat → Int32} (I : Nat → Nat → Int32) (J : Nat → Nat → Int64) (tg : Option Nat) (x1 : Int32) (x2 : Int32) (x3 : Int32) (x4 : Int32) (x5 : Int32) {r : Option Value × SS} (h : ((if 100 < x5 then (r = (some (.int (-1)), (zS I J tg))) else (∃ (v1 : Int32) (I2 : Nat → Nat → Int32) (J3 : Nat → Nat → Int64), Runs (GW L xs) d 281 (0, [.ref 93, .int x4, .int x3, vU, vU], [], (zS I J tg)) ((some (.int v1)), (zS I2 J3 tg)) ∧ (if v1 < 500 then (∃ (v4 : Int32) (I5 : Nat → Nat → Int32) (J6 : Nat → Nat → Int64), Runs (GW L xs) d 280 (0, [.ref 93, .int x4], [], (zS I2 J3 tg)) ((some (.int v4)), (zS I5 J6 tg)) ∧ Runs (GW L xs) (d + 1) 284 (47, [.ref 93, .int x1, .int x2, .int x3, .int v4, .int (x5 + 1)], [], (zS I5 J6 tg)) r) else (r = (some (.int x5), (zS I2 J3 tg)))))))) : Runs (GW L xs) (d + 1) 284 (47, [.ref 93, .int x1, .int x2, .int x3, .int x4, .int x5], [], (zS I J tg)) r := by
  refine Runs.sN 2 (c' := (51, [.ref 93, .int x1, .int x2, .int x3, .int x4, .int x5], [.int 100, .int x5], (zS I J tg))) rfl ?_
  by_cases c7 : 100 < x5
  · rw [if_pos c7] at h
    refine Runs.brT (P := 100 < x5) (a := 84) (b := 54) (L := [.ref 93, .int x1, .int x2, .int x3, .int x4, .int x5]) (S := []) (z := (zS I J tg)) rfl c7 ?_
    refine Runs.sN 1 (c' := (85, [.ref 93, .int x1, .int x2, .int x3, .int x4, .int x5], [.int (-1)], (zS I J tg))) rfl ?_
    subst h
    exact Runs.rt rfl
  · rw [if_neg c7] at h
    refine Runs.brF (P := 100 < x5) (a := 84) (b := 54) (L := [.ref 93, .int x1, .int x2, .int x3, .int x4, .int x5]) (S := []) (z := (zS I J tg)) rfl c7 ?_
    refine Runs.sN 3 (c' := (58, [.ref 93, .int x1, .int x2, .int x3, .int x4, .int x5], [.int x3, .int x4, .ref 93], (zS I J tg))) rfl ?_
    obtain ⟨v1, I2, J3, c8, h⟩ := h
    refine Runs.cl (cm := 281) (as := [.ref 93, .int x4, .int x3]) (rest := []) (r1 := ((some (.int v1)), (zS I2 J3 tg))) rfl (Nat.le_of_ble_eq_true rfl) c8 ?_
    refine Runs.as (c' := (61, [.ref 93, .int x1, .int x2, .int x3, .int x4, .int x5], [.int v1], (zS I2 J3 tg))) rfl ?_
    refine Runs.sN 1 (c' := (64, [.ref 93, .int x1, .int x2, .int x3, .int x4, .int x5], [.int 500, .int v1], (zS I2 J3 tg))) rfl ?_
    by_cases c9 : v1 < 500
    · rw [if_pos c9] at h
      refine Runs.brT (P := v1 < 500) (a := 70) (b := 67) (L := [.ref 93, .int x1, .int x2, .int x3, .int x4, .int x5]) (S := []) (z := (zS I2 J3 tg)) rfl c9 ?_
      refine Runs.sN 2 (c' := (73, [.ref 93, .int x1, .int x2, .int x3, .int x4, .int x5], [.int x4, .ref 93], (zS I2 J3 tg))) rfl ?_
      obtain ⟨v4, I5, J6, c10, h⟩ := h
      refine Runs.cl (cm := 280) (as := [.ref 93, .int x4]) (rest := []) (r1 := ((some (.int v4)), (zS I5 J6 tg))) rfl (Nat.le_of_ble_eq_true rfl) c10 ?_
      refine Runs.as (c' := (76, [.ref 93, .int x1, .int x2, .int x3, .int x4, .int x5], [.int v4], (zS I5 J6 tg))) rfl ?_
      refine Runs.sN 3 (c' := (47, [.ref 93, .int x1, .int x2, .int x3, .int v4, .int (x5 + 1)], [], (zS I5 J6 tg))) rfl ?_
      exact h
    · rw [if_neg c9] at h
      refine Runs.brF (P := v1 < 500) (a := 70) (b := 67) (L := [.ref 93, .int x1, .int x2, .int x3, .int x4, .int x5]) (S := []) (z := (zS I2 J3 tg)) rfl c9 ?_
      refine Runs.sN 1 (c' := (69, [.ref 93, .int x1, .int x2, .int x3, .int x4, .int x5], [.int x5], (zS I2 J3 tg))) rfl ?_
      subst h
      exact Runs.rt rfl
-- X12_worstHarm 
theorem sg_285 {L d : Nat} {xs : Nat → Int32} (I : Nat → Nat → Int32) (J : Nat → Nat → Int64) (tg : Option Nat) (a1 : Int32) (a2 : Int32) (a3 : Int32) {r : Option Value × SS} (h : (∃ (I20 : Nat → Nat → Int32) (J21 : Nat → Nat → Int64), Runs (GW L xs) d 203 (0, [.ref 93, .int a1, .int a2, vU], [], (zS I J tg)) (none, (zS I20 J21 tg)) ∧ Runs (GW L xs) (d + 1) 285 (12, [.ref 93, .int a1, .int a2, .int a3, .int (-1), .int 0, vU, vU], [], (zS I20 J21 tg)) r)) : Runs (GW L xs) (d + 1) 285 (0, [.ref 93, .int a1, .int a2, .int a3, vU, vU, vU, vU], [], (zS I J tg)) r := by
  refine Runs.sN 5 (c' := (6, [.ref 93, .int a1, .int a2, .int a3, .int (-1), vU, vU, vU], [.int a2, .int a1, .ref 93], (zS I J tg))) rfl ?_
  obtain ⟨I20, J21, c22, h⟩ := h
  refine Runs.cl (cm := 203) (as := [.ref 93, .int a1, .int a2]) (rest := []) (r1 := (none, (zS I20 J21 tg))) rfl (Nat.le_of_ble_eq_true rfl) c22 ?_
  refine Runs.as (c' := (9, [.ref 93, .int a1, .int a2, .int a3, .int (-1), vU, vU, vU], [], (zS I20 J21 tg))) rfl ?_
  refine Runs.sN 2 (c' := (12, [.ref 93, .int a1, .int a2, .int a3, .int (-1), .int 0, vU, vU], [], (zS I20 J21 tg))) rfl ?_
  exact h
theorem sg_285_12 {L d : Nat} {xs : Nat → Int32} (I : Nat → Nat → Int32) (J : Nat → Nat → Int64) (tg : Option Nat) (x1 : Int32) (x2 : Int32) (x3 : Int32) (x4 : Int32) (x5 : Int32) {r : Option Value × SS} (h : (∃ (v1 : Int32) (I2 : Nat → Nat → Int32) (J3 : Nat → Nat → Int64), Runs (GW L xs) d 199 (0, [.ref 93], [], (zS I J tg)) ((some (.int v1)), (zS I2 J3 tg)) ∧ (if v1 < x5 then (r = (some (.int x4), (zS I2 J3 tg))) else (∃ (v4 : Int32) (I5 : Nat → Nat → Int32) (J6 : Nat → Nat → Int64), Runs (GW L xs) d 185 (0, [.int x5, vU, vU], [], (zS I2 J3 tg)) ((some (.int v4)), (zS I5 J6 tg)) ∧ (if v4 = x3 then (∃ (v7 : Int32) (I8 : Nat → Nat → Int32) (J9 : Nat → Nat → Int64), Runs (GW L xs) d 204 (0, [.ref 93, .int x5, .int 0, .int 0, vU, vU, vU, vU, vU], [], (zS I5 J6 tg)) ((some (.int v7)), (zS I8 J9 tg)) ∧ ∃ (v10 : Int32) (I11 : Nat → Nat → Int32) (J12 : Nat → Nat → Int64), Runs (GW L xs) d 245 (0, [.ref 93, .int x1, .int v7], [], (zS I8 J9 tg)) ((some (.int v10)), (zS I11 J12 tg)) ∧ (if v10 = 0 then (∃ (v13 : Int32) (I14 : Nat → Nat → Int32) (J15 : Nat → Nat → Int64), Runs (GW L xs) d 247 (0, [.ref 93, .int x1, .int v7, .int (-1), .int x2, vU, vU, vU, vU], [], (zS I11 J12 tg)) ((some (.int v13)), (zS I14 J15 tg)) ∧ (if x4 < v13 then (Runs (GW L xs) (d + 1) 285 (12, [.ref 93, .int x1, .int x2, .int x3, .int v13, .int (x5 + 1), vU, vU], [], (zS (up2 I14 93 36 x5) J15 tg)) r) else (Runs (GW L xs) (d + 1) 285 (12, [.ref 93, .int x1, .int x2, .int x3, .int x4, .int (x5 + 1), vU, vU], [], (zS I14 J15 tg)) r))) else ((if x4 < 0 then (Runs (GW L xs) (d + 1) 285 (12, [.ref 93, .int x1, .int x2, .int x3, .int 0, .int (x5 + 1), vU, vU], [], (zS (up2 I11 93 36 x5) J12 tg)) r) else (Runs (GW L xs) (d + 1) 285 (12, [.ref 93, .int x1, .int x2, .int x3, .int x4, .int (x5 + 1), vU, vU], [], (zS I11 J12 tg)) r))))) else (Runs (GW L xs) (d + 1) 285 (12, [.ref 93, .int x1, .int x2, .int x3, .int x4, .int (x5 + 1), vU, vU], [], (zS I5 J6 tg)) r)))))) : Runs (GW L xs) (d + 1) 285 (12, [.ref 93, .int x1, .int x2, .int x3, .int x4, .int x5, vU, vU], [], (zS I J tg)) r := by
  refine Runs.sN 2 (c' := (15, [.ref 93, .int x1, .int x2, .int x3, .int x4, .int x5, vU, vU], [.ref 93, .int x5], (zS I J tg))) rfl ?_
  obtain ⟨v1, I2, J3, c16, h⟩ := h
  refine Runs.cl (cm := 199) (as := [.ref 93]) (rest := [.int x5]) (r1 := ((some (.int v1)), (zS I2 J3 tg))) rfl (Nat.le_of_ble_eq_true rfl) c16 ?_
  refine Runs.as (c' := (18, [.ref 93, .int x1, .int x2, .int x3, .int x4, .int x5, vU, vU], [.int v1, .int x5], (zS I2 J3 tg))) rfl ?_
  by_cases c17 : v1 < x5
  · rw [if_pos c17] at h
    refine Runs.brT (P := v1 < x5) (a := 94) (b := 21) (L := [.ref 93, .int x1, .int x2, .int x3, .int x4, .int x5, vU, vU]) (S := []) (z := (zS I2 J3 tg)) rfl c17 ?_
    refine Runs.sN 1 (c' := (96, [.ref 93, .int x1, .int x2, .int x3, .int x4, .int x5, vU, vU], [.int x4], (zS I2 J3 tg))) rfl ?_
    subst h
    exact Runs.rt rfl
  · rw [if_neg c17] at h
    refine Runs.brF (P := v1 < x5) (a := 94) (b := 21) (L := [.ref 93, .int x1, .int x2, .int x3, .int x4, .int x5, vU, vU]) (S := []) (z := (zS I2 J3 tg)) rfl c17 ?_
    refine Runs.sN 1 (c' := (23, [.ref 93, .int x1, .int x2, .int x3, .int x4, .int x5, vU, vU], [.int x5], (zS I2 J3 tg))) rfl ?_
    obtain ⟨v4, I5, J6, c18, h⟩ := h
    refine Runs.cl (cm := 185) (as := [.int x5]) (rest := []) (r1 := ((some (.int v4)), (zS I5 J6 tg))) rfl (Nat.le_of_ble_eq_true rfl) c18 ?_
    refine Runs.as (c' := (26, [.ref 93, .int x1, .int x2, .int x3, .int x4, .int x5, vU, vU], [.int v4], (zS I5 J6 tg))) rfl ?_
    refine Runs.sN 1 (c' := (27, [.ref 93, .int x1, .int x2, .int x3, .int x4, .int x5, vU, vU], [.int x3, .int v4], (zS I5 J6 tg))) rfl ?_
    by_cases c19 : v4 = x3
    · rw [if_pos c19] at h
      refine Runs.brT (P := v4 = x3) (a := 33) (b := 30) (L := [.ref 93, .int x1, .int x2, .int x3, .int x4, .int x5, vU, vU]) (S := []) (z := (zS I5 J6 tg)) rfl c19 ?_
      refine Runs.sN 4 (c' := (38, [.ref 93, .int x1, .int x2, .int x3, .int x4, .int x5, vU, vU], [.int 0, .int 0, .int x5, .ref 93], (zS I5 J6 tg))) rfl ?_
      obtain ⟨v7, I8, J9, c20, h⟩ := h
      refine Runs.cl (cm := 204) (as := [.ref 93, .int x5, .int 0, .int 0]) (rest := []) (r1 := ((some (.int v7)), (zS I8 J9 tg))) rfl (Nat.le_of_ble_eq_true rfl) c20 ?_
      refine Runs.as (c' := (41, [.ref 93, .int x1, .int x2, .int x3, .int x4, .int x5, vU, vU], [.int v7], (zS I8 J9 tg))) rfl ?_
      refine Runs.sN 4 (c' := (47, [.ref 93, .int x1, .int x2, .int x3, .int x4, .int x5, .int v7, vU], [.int v7, .int x1, .ref 93], (zS I8 J9 tg))) rfl ?_
      obtain ⟨v10, I11, J12, c21, h⟩ := h
      refine Runs.cl (cm := 245) (as := [.ref 93, .int x1, .int v7]) (rest := []) (r1 := ((some (.int v10)), (zS I11 J12 tg))) rfl (Nat.le_of_ble_eq_true rfl) c21 ?_
      refine Runs.as (c' := (50, [.ref 93, .int x1, .int x2, .int x3, .int x4, .int x5, .int v7, vU], [.int v10], (zS I11 J12 tg))) rfl ?_
      by_cases c22 : v10 = 0
      · rw [if_pos c22] at h
        refine Runs.brT (P := v10 = 0) (a := 57) (b := 53) (L := [.ref 93, .int x1, .int x2, .int x3, .int x4, .int x5, .int v7, vU]) (S := []) (z := (zS I11 J12 tg)) rfl c22 ?_
        refine Runs.sN 5 (c' := (63, [.ref 93, .int x1, .int x2, .int x3, .int x4, .int x5, .int v7, vU], [.int x2, .int (-1), .int v7, .int x1, .ref 93], (zS I11 J12 tg))) rfl ?_
        obtain ⟨v13, I14, J15, c23, h⟩ := h
        refine Runs.cl (cm := 247) (as := [.ref 93, .int x1, .int v7, .int (-1), .int x2]) (rest := []) (r1 := ((some (.int v13)), (zS I14 J15 tg))) rfl (Nat.le_of_ble_eq_true rfl) c23 ?_
        refine Runs.as (c' := (66, [.ref 93, .int x1, .int x2, .int x3, .int x4, .int x5, .int v7, vU], [.int v13], (zS I14 J15 tg))) rfl ?_
        refine Runs.sN 3 (c' := (72, [.ref 93, .int x1, .int x2, .int x3, .int x4, .int x5, .int v7, .int v13], [.int x4, .int v13], (zS I14 J15 tg))) rfl ?_
        by_cases c24 : x4 < v13
        · rw [if_pos c24] at h
          refine Runs.brT (P := x4 < v13) (a := 78) (b := 75) (L := [.ref 93, .int x1, .int x2, .int x3, .int x4, .int x5, .int v7, .int v13]) (S := []) (z := (zS I14 J15 tg)) rfl c24 ?_
          refine Runs.sN 7 (c' := (12, [.ref 93, .int x1, .int x2, .int x3, .int v13, .int (x5 + 1), .int v7, .int v13], [], (zS (up2 I14 93 36 x5) J15 tg))) rfl ?_
          exact Runs.weak (L := [.ref 93, .int x1, .int x2, .int x3, .int v13, .int (x5 + 1), vU, vU]) (Lle.k (Lle.k (Lle.k (Lle.k (Lle.k (Lle.k (Lle.u (Lle.u Lle.n)))))))) h
        · rw [if_neg c24] at h
          refine Runs.brF (P := x4 < v13) (a := 78) (b := 75) (L := [.ref 93, .int x1, .int x2, .int x3, .int x4, .int x5, .int v7, .int v13]) (S := []) (z := (zS I14 J15 tg)) rfl c24 ?_
          refine Runs.sN 3 (c' := (12, [.ref 93, .int x1, .int x2, .int x3, .int x4, .int (x5 + 1), .int v7, .int v13], [], (zS I14 J15 tg))) rfl ?_
          exact Runs.weak (L := [.ref 93, .int x1, .int x2, .int x3, .int x4, .int (x5 + 1), vU, vU]) (Lle.k (Lle.k (Lle.k (Lle.k (Lle.k (Lle.k (Lle.u (Lle.u Lle.n)))))))) h
      · rw [if_neg c22] at h
        refine Runs.brF (P := v10 = 0) (a := 57) (b := 53) (L := [.ref 93, .int x1, .int x2, .int x3, .int x4, .int x5, .int v7, vU]) (S := []) (z := (zS I11 J12 tg)) rfl c22 ?_
        refine Runs.sN 5 (c' := (72, [.ref 93, .int x1, .int x2, .int x3, .int x4, .int x5, .int v7, .int 0], [.int x4, .int 0], (zS I11 J12 tg))) rfl ?_
        by_cases c25 : x4 < 0
        · rw [if_pos c25] at h
          refine Runs.brT (P := x4 < 0) (a := 78) (b := 75) (L := [.ref 93, .int x1, .int x2, .int x3, .int x4, .int x5, .int v7, .int 0]) (S := []) (z := (zS I11 J12 tg)) rfl c25 ?_
          refine Runs.sN 7 (c' := (12, [.ref 93, .int x1, .int x2, .int x3, .int 0, .int (x5 + 1), .int v7, .int 0], [], (zS (up2 I11 93 36 x5) J12 tg))) rfl ?_
          exact Runs.weak (L := [.ref 93, .int x1, .int x2, .int x3, .int 0, .int (x5 + 1), vU, vU]) (Lle.k (Lle.k (Lle.k (Lle.k (Lle.k (Lle.k (Lle.u (Lle.u Lle.n)))))))) h
        · rw [if_neg c25] at h
          refine Runs.brF (P := x4 < 0) (a := 78) (b := 75) (L := [.ref 93, .int x1, .int x2, .int x3, .int x4, .int x5, .int v7, .int 0]) (S := []) (z := (zS I11 J12 tg)) rfl c25 ?_
          refine Runs.sN 3 (c' := (12, [.ref 93, .int x1, .int x2, .int x3, .int x4, .int (x5 + 1), .int v7, .int 0], [], (zS I11 J12 tg))) rfl ?_
          exact Runs.weak (L := [.ref 93, .int x1, .int x2, .int x3, .int x4, .int (x5 + 1), vU, vU]) (Lle.k (Lle.k (Lle.k (Lle.k (Lle.k (Lle.k (Lle.u (Lle.u Lle.n)))))))) h
    · rw [if_neg c19] at h
      refine Runs.brF (P := v4 = x3) (a := 33) (b := 30) (L := [.ref 93, .int x1, .int x2, .int x3, .int x4, .int x5, vU, vU]) (S := []) (z := (zS I5 J6 tg)) rfl c19 ?_
      refine Runs.sN 3 (c' := (12, [.ref 93, .int x1, .int x2, .int x3, .int x4, .int (x5 + 1), vU, vU], [], (zS I5 J6 tg))) rfl ?_
      exact h
-- X12_anybody 
theorem sg_286 {L d : Nat} {xs : Nat → Int32} (I : Nat → Nat → Int32) (J : Nat → Nat → Int64) (tg : Option Nat) (a1 : Int32) (a2 : Int32) (a3 : Int32) (a4 : Int32) {r : Option Value × SS} (h : (∃ (v16 : Int32) (I17 : Nat → Nat → Int32) (J18 : Nat → Nat → Int64), Runs (GW L xs) d 179 (0, [.ref 93, .int a1], [], (zS I J tg)) ((some (.int v16)), (zS I17 J18 tg)) ∧ (if v16 = 0 then (r = (some (.int (-1)), (zS I17 J18 tg))) else (∃ (v19 : Int32) (I20 : Nat → Nat → Int32) (J21 : Nat → Nat → Int64), Runs (GW L xs) d 182 (0, [.int a2], [], (zS I17 J18 tg)) ((some (.int v19)), (zS I20 J21 tg)) ∧ (if v19 = 0 then (r = (some (.int (-1)), (zS I20 J21 tg))) else (∃ (v22 : Int32) (I23 : Nat → Nat → Int32) (J24 : Nat → Nat → Int64), Runs (GW L xs) d 177 (0, [.int a3, .int 0, .int (I20 94 2)], [], (zS I20 J21 tg)) ((some (.int v22)), (zS I23 J24 tg)) ∧ (if v22 = 0 then (r = (some (.int (-1)), (zS I23 J24 tg))) else (∃ (v25 : Int32) (I26 : Nat → Nat → Int32) (J27 : Nat → Nat → Int64), Runs (GW L xs) d 177 (0, [.int a4, .int 0, .int 1], [], (zS I23 J24 tg)) ((some (.int v25)), (zS I26 J27 tg)) ∧ (if v25 = 0 then (r = (some (.int (-1)), (zS I26 J27 tg))) else (∃ (v28 : Int32) (I29 : Nat → Nat → Int32) (J30 : Nat → Nat → Int64), Runs (GW L xs) d 285 (0, [.ref 93, .int a1, .int a2, .int a3, vU, vU, vU, vU], [], (zS I26 J27 tg)) ((some (.int v28)), (zS I29 J30 tg)) ∧ (if a4 = 0 then (r = (some (.int v28), (zS I29 J30 tg))) else (r = (some (.int (I29 93 36)), (zS I29 J30 tg)))))))))))))) : Runs (GW L xs) (d + 1) 286 (0, [.ref 93, .int a1, .int a2, .int a3, .int a4, vU], [], (zS I J tg)) r := by
  refine Runs.sN 2 (c' := (2, [.ref 93, .int a1, .int a2, .int a3, .int a4, vU], [.int a1, .ref 93], (zS I J tg))) rfl ?_
  obtain ⟨v16, I17, J18, c31, h⟩ := h
  refine Runs.cl (cm := 179) (as := [.ref 93, .int a1]) (rest := []) (r1 := ((some (.int v16)), (zS I17 J18 tg))) rfl (Nat.le_of_ble_eq_true rfl) c31 ?_
  refine Runs.as (c' := (5, [.ref 93, .int a1, .int a2, .int a3, .int a4, vU], [.int v16], (zS I17 J18 tg))) rfl ?_
  by_cases c32 : v16 = 0
  · rw [if_pos c32] at h
    refine Runs.brT (P := v16 = 0) (a := 39) (b := 8) (L := [.ref 93, .int a1, .int a2, .int a3, .int a4, vU]) (S := []) (z := (zS I17 J18 tg)) rfl c32 ?_
    refine Runs.sN 1 (c' := (40, [.ref 93, .int a1, .int a2, .int a3, .int a4, vU], [.int (-1)], (zS I17 J18 tg))) rfl ?_
    subst h
    exact Runs.rt rfl
  · rw [if_neg c32] at h
    refine Runs.brF (P := v16 = 0) (a := 39) (b := 8) (L := [.ref 93, .int a1, .int a2, .int a3, .int a4, vU]) (S := []) (z := (zS I17 J18 tg)) rfl c32 ?_
    refine Runs.sN 1 (c' := (9, [.ref 93, .int a1, .int a2, .int a3, .int a4, vU], [.int a2], (zS I17 J18 tg))) rfl ?_
    obtain ⟨v19, I20, J21, c33, h⟩ := h
    refine Runs.cl (cm := 182) (as := [.int a2]) (rest := []) (r1 := ((some (.int v19)), (zS I20 J21 tg))) rfl (Nat.le_of_ble_eq_true rfl) c33 ?_
    refine Runs.as (c' := (12, [.ref 93, .int a1, .int a2, .int a3, .int a4, vU], [.int v19], (zS I20 J21 tg))) rfl ?_
    by_cases c34 : v19 = 0
    · rw [if_pos c34] at h
      refine Runs.brT (P := v19 = 0) (a := 39) (b := 15) (L := [.ref 93, .int a1, .int a2, .int a3, .int a4, vU]) (S := []) (z := (zS I20 J21 tg)) rfl c34 ?_
      refine Runs.sN 1 (c' := (40, [.ref 93, .int a1, .int a2, .int a3, .int a4, vU], [.int (-1)], (zS I20 J21 tg))) rfl ?_
      subst h
      exact Runs.rt rfl
    · rw [if_neg c34] at h
      refine Runs.brF (P := v19 = 0) (a := 39) (b := 15) (L := [.ref 93, .int a1, .int a2, .int a3, .int a4, vU]) (S := []) (z := (zS I20 J21 tg)) rfl c34 ?_
      refine Runs.sN 6 (c' := (23, [.ref 93, .int a1, .int a2, .int a3, .int a4, vU], [.int (I20 94 2), .int 0, .int a3], (zS I20 J21 tg))) rfl ?_
      obtain ⟨v22, I23, J24, c35, h⟩ := h
      refine Runs.cl (cm := 177) (as := [.int a3, .int 0, .int (I20 94 2)]) (rest := []) (r1 := ((some (.int v22)), (zS I23 J24 tg))) rfl (Nat.le_of_ble_eq_true rfl) c35 ?_
      refine Runs.as (c' := (26, [.ref 93, .int a1, .int a2, .int a3, .int a4, vU], [.int v22], (zS I23 J24 tg))) rfl ?_
      by_cases c36 : v22 = 0
      · rw [if_pos c36] at h
        refine Runs.brT (P := v22 = 0) (a := 39) (b := 29) (L := [.ref 93, .int a1, .int a2, .int a3, .int a4, vU]) (S := []) (z := (zS I23 J24 tg)) rfl c36 ?_
        refine Runs.sN 1 (c' := (40, [.ref 93, .int a1, .int a2, .int a3, .int a4, vU], [.int (-1)], (zS I23 J24 tg))) rfl ?_
        subst h
        exact Runs.rt rfl
      · rw [if_neg c36] at h
        refine Runs.brF (P := v22 = 0) (a := 39) (b := 29) (L := [.ref 93, .int a1, .int a2, .int a3, .int a4, vU]) (S := []) (z := (zS I23 J24 tg)) rfl c36 ?_
        refine Runs.sN 3 (c' := (33, [.ref 93, .int a1, .int a2, .int a3, .int a4, vU], [.int 1, .int 0, .int a4], (zS I23 J24 tg))) rfl ?_
        obtain ⟨v25, I26, J27, c37, h⟩ := h
        refine Runs.cl (cm := 177) (as := [.int a4, .int 0, .int 1]) (rest := []) (r1 := ((some (.int v25)), (zS I26 J27 tg))) rfl (Nat.le_of_ble_eq_true rfl) c37 ?_
        refine Runs.as (c' := (36, [.ref 93, .int a1, .int a2, .int a3, .int a4, vU], [.int v25], (zS I26 J27 tg))) rfl ?_
        by_cases c38 : v25 = 0
        · rw [if_pos c38] at h
          refine Runs.brT (P := v25 = 0) (a := 39) (b := 41) (L := [.ref 93, .int a1, .int a2, .int a3, .int a4, vU]) (S := []) (z := (zS I26 J27 tg)) rfl c38 ?_
          refine Runs.sN 1 (c' := (40, [.ref 93, .int a1, .int a2, .int a3, .int a4, vU], [.int (-1)], (zS I26 J27 tg))) rfl ?_
          subst h
          exact Runs.rt rfl
        · rw [if_neg c38] at h
          refine Runs.brF (P := v25 = 0) (a := 39) (b := 41) (L := [.ref 93, .int a1, .int a2, .int a3, .int a4, vU]) (S := []) (z := (zS I26 J27 tg)) rfl c38 ?_
          refine Runs.sN 4 (c' := (45, [.ref 93, .int a1, .int a2, .int a3, .int a4, vU], [.int a3, .int a2, .int a1, .ref 93], (zS I26 J27 tg))) rfl ?_
          obtain ⟨v28, I29, J30, c39, h⟩ := h
          refine Runs.cl (cm := 285) (as := [.ref 93, .int a1, .int a2, .int a3]) (rest := []) (r1 := ((some (.int v28)), (zS I29 J30 tg))) rfl (Nat.le_of_ble_eq_true rfl) c39 ?_
          refine Runs.as (c' := (48, [.ref 93, .int a1, .int a2, .int a3, .int a4, vU], [.int v28], (zS I29 J30 tg))) rfl ?_
          refine Runs.sN 2 (c' := (52, [.ref 93, .int a1, .int a2, .int a3, .int a4, .int v28], [.int a4], (zS I29 J30 tg))) rfl ?_
          by_cases c40 : a4 = 0
          · rw [if_pos c40] at h
            refine Runs.brT (P := a4 = 0) (a := 55) (b := 60) (L := [.ref 93, .int a1, .int a2, .int a3, .int a4, .int v28]) (S := []) (z := (zS I29 J30 tg)) rfl c40 ?_
            refine Runs.sN 2 (c' := (64, [.ref 93, .int a1, .int a2, .int a3, .int a4, .int v28], [.int v28], (zS I29 J30 tg))) rfl ?_
            subst h
            exact Runs.rt rfl
          · rw [if_neg c40] at h
            refine Runs.brF (P := a4 = 0) (a := 55) (b := 60) (L := [.ref 93, .int a1, .int a2, .int a3, .int a4, .int v28]) (S := []) (z := (zS I29 J30 tg)) rfl c40 ?_
            refine Runs.sN 2 (c' := (64, [.ref 93, .int a1, .int a2, .int a3, .int a4, .int v28], [.int (I29 93 36)], (zS I29 J30 tg))) rfl ?_
            subst h
            exact Runs.rt rfl
