-- X12_readRow 
theorem sg_273 {L d : Nat} {xs : Nat → Int32} (I : Nat → Nat → Int32) (J : Nat → Nat → Int64) (tg : Option Nat) (a1 : Int32) (a2 : Int32) {r : Option Value × SS} (h : (Runs (GW L xs) (d + 1) 273 (2, [.ref 93, .int a1, .int a2, .int 0], [], (zS I J tg)) r)) : Runs (GW L xs) (d + 1) 273 (0, [.ref 93, .int a1, .int a2, vU], [], (zS I J tg)) r := by
  refine Runs.sN 2 (c' := (2, [.ref 93, .int a1, .int a2, .int 0], [], (zS I J tg))) rfl ?_
  exact h
theorem sg_273_2 {L d : Nat} {xs : Nat → Int32} (I : Nat → Nat → Int32) (J : Nat → Nat → Int64) (tg : Option Nat) (x1 : Int32) (x2 : Int32) (x3 : Int32) {r : Option Value × SS} (h : ((if (I 94 6) ≤ x3 then (Runs (GW L xs) (d + 1) 273 (48, [.ref 93, .int x1, .int x2, .int 1], [], (zS I J tg)) r) else (¬ (x3 < 0 ∨ 8 ≤ (x3).toNatClampNeg) ∧ ¬ ((880 + (I 109 ((x3).toNatClampNeg))) < 0 ∨ 1200 ≤ (880 + (I 109 ((x3).toNatClampNeg))).toNatClampNeg) ∧ ∃ (v1 : Int32) (I2 : Nat → Nat → Int32) (J3 : Nat → Nat → Int64) (tg4 : Option Nat), Runs (GW L xs) d 205 (0, [.ref 93, .int (I 94 ((880 + (I 109 ((x3).toNatClampNeg))).toNatClampNeg)), .int x1, .int x2], [], (zS I J tg)) ((some (.int v1)), (zS I2 J3 tg4)) ∧ ¬ (x3 < 0 ∨ 8 ≤ (x3).toNatClampNeg) ∧ Runs (GW L xs) (d + 1) 273 (2, [.ref 93, .int x1, .int x2, .int (x3 + 1)], [], (zS (up2 I2 110 ((x3).toNatClampNeg) v1) J3 tg4)) r)))) : Runs (GW L xs) (d + 1) 273 (2, [.ref 93, .int x1, .int x2, .int x3], [], (zS I J tg)) r := by
  refine Runs.sN 5 (c' := (10, [.ref 93, .int x1, .int x2, .int x3], [.int (I 94 6), .int x3], (zS I J tg))) rfl ?_
  by_cases c5 : (I 94 6) ≤ x3
  · rw [if_pos c5] at h
    refine Runs.brT (P := (I 94 6) ≤ x3) (a := 46) (b := 13) (L := [.ref 93, .int x1, .int x2, .int x3]) (S := []) (z := (zS I J tg)) rfl c5 ?_
    refine Runs.sN 2 (c' := (48, [.ref 93, .int x1, .int x2, .int 1], [], (zS I J tg))) rfl ?_
    exact h
  · rw [if_neg c5] at h
    refine Runs.brF (P := (I 94 6) ≤ x3) (a := 46) (b := 13) (L := [.ref 93, .int x1, .int x2, .int x3]) (S := []) (z := (zS I J tg)) rfl c5 ?_
    refine Runs.sN 10 (c' := (31, [.ref 93, .int x1, .int x2, .int x3], [.int x3, .ref 109, .int 880, .ref 94, .ref 93, .int x3, .ref 110], (zS I J tg))) rfl ?_
    obtain ⟨c6, h⟩ := h
    refine Runs.to (c' := (32, [.ref 93, .int x1, .int x2, .int x3], [.int (I 109 ((x3).toNatClampNeg)), .int 880, .ref 94, .ref 93, .int x3, .ref 110], (zS I J tg))) (Runs.ild rfl (show (109 : Nat) < 114 by decide) rfl c6) ?_
    refine Runs.sN 1 (c' := (33, [.ref 93, .int x1, .int x2, .int x3], [.int (880 + (I 109 ((x3).toNatClampNeg))), .ref 94, .ref 93, .int x3, .ref 110], (zS I J tg))) rfl ?_
    obtain ⟨c7, h⟩ := h
    refine Runs.to (c' := (34, [.ref 93, .int x1, .int x2, .int x3], [.int (I 94 ((880 + (I 109 ((x3).toNatClampNeg))).toNatClampNeg)), .ref 93, .int x3, .ref 110], (zS I J tg))) (Runs.ild rfl (show (94 : Nat) < 114 by decide) rfl c7) ?_
    refine Runs.sN 2 (c' := (36, [.ref 93, .int x1, .int x2, .int x3], [.int x2, .int x1, .int (I 94 ((880 + (I 109 ((x3).toNatClampNeg))).toNatClampNeg)), .ref 93, .int x3, .ref 110], (zS I J tg))) rfl ?_
    obtain ⟨v1, I2, J3, tg4, c8, h⟩ := h
    refine Runs.cl (cm := 205) (as := [.ref 93, .int (I 94 ((880 + (I 109 ((x3).toNatClampNeg))).toNatClampNeg)), .int x1, .int x2]) (rest := [.int x3, .ref 110]) (r1 := ((some (.int v1)), (zS I2 J3 tg4))) rfl (Nat.le_of_ble_eq_true rfl) c8 ?_
    refine Runs.as (c' := (39, [.ref 93, .int x1, .int x2, .int x3], [.int v1, .int x3, .ref 110], (zS I2 J3 tg4))) rfl ?_
    obtain ⟨c9, h⟩ := h
    refine Runs.to (c' := (40, [.ref 93, .int x1, .int x2, .int x3], [], (zS (up2 I2 110 ((x3).toNatClampNeg) v1) J3 tg4))) (Runs.ist rfl (show (110 : Nat) < 114 by decide) rfl c9) ?_
    refine Runs.sN 2 (c' := (2, [.ref 93, .int x1, .int x2, .int (x3 + 1)], [], (zS (up2 I2 110 ((x3).toNatClampNeg) v1) J3 tg4))) rfl ?_
    exact h
theorem sg_273_48 {L d : Nat} {xs : Nat → Int32} (I : Nat → Nat → Int32) (J : Nat → Nat → Int64) (tg : Option Nat) (x1 : Int32) (x2 : Int32) (x3 : Int32) {r : Option Value × SS} (h : ((if (I 94 6) ≤ x3 then (r = (none, (zS I J tg))) else (¬ (x3 < 0 ∨ 8 ≤ (x3).toNatClampNeg) ∧ ¬ ((880 + (I 109 ((x3).toNatClampNeg))) < 0 ∨ 1200 ≤ (880 + (I 109 ((x3).toNatClampNeg))).toNatClampNeg) ∧ ∃ (I1 : Nat → Nat → Int32) (J2 : Nat → Nat → Int64) (tg3 : Option Nat), Runs (GW L xs) d 203 (0, [.ref 93, .int (I 94 ((880 + (I 109 ((x3).toNatClampNeg))).toNatClampNeg)), .int x2, vU], [], (zS I J tg)) (none, (zS I1 J2 tg3)) ∧ ¬ ((690 + x1) < 0 ∨ 1200 ≤ (690 + x1).toNatClampNeg) ∧ ¬ ((x3 - 1) < 0 ∨ 8 ≤ (x3 - 1).toNatClampNeg) ∧ ∃ (v4 : Int32) (I5 : Nat → Nat → Int32) (J6 : Nat → Nat → Int64) (tg7 : Option Nat), Runs (GW L xs) d 272 (0, [.ref 93, .int (I1 110 ((x3 - 1).toNatClampNeg))], [], (zS I1 J2 tg3)) ((some (.int v4)), (zS I5 J6 tg7)) ∧ (if (I5 94 6) ≤ (x3 + 1) then (∃ (v8 : Int32) (I9 : Nat → Nat → Int32) (J10 : Nat → Nat → Int64) (tg11 : Option Nat), Runs (GW L xs) d 204 (0, [.ref 93, .int (I1 94 ((690 + x1).toNatClampNeg)), .int v4, .int 0, vU, vU, vU, vU, vU], [], (zS I5 J6 tg7)) ((some (.int v8)), (zS I9 J10 tg11)) ∧ ¬ (x3 < 0 ∨ 8 ≤ (x3).toNatClampNeg) ∧ Runs (GW L xs) (d + 1) 273 (48, [.ref 93, .int x1, .int x2, .int (x3 + 1)], [], (zS (up2 I9 110 ((x3).toNatClampNeg) v8) J10 tg11)) r) else (¬ ((x3 + 1) < 0 ∨ 8 ≤ (x3 + 1).toNatClampNeg) ∧ ∃ (v12 : Int32) (I13 : Nat → Nat → Int32) (J14 : Nat → Nat → Int64) (tg15 : Option Nat), Runs (GW L xs) d 272 (0, [.ref 93, .int (I5 110 ((x3 + 1).toNatClampNeg))], [], (zS I5 J6 tg7)) ((some (.int v12)), (zS I13 J14 tg15)) ∧ ∃ (v16 : Int32) (I17 : Nat → Nat → Int32) (J18 : Nat → Nat → Int64) (tg19 : Option Nat), Runs (GW L xs) d 204 (0, [.ref 93, .int (I1 94 ((690 + x1).toNatClampNeg)), .int v4, .int v12, vU, vU, vU, vU, vU], [], (zS I13 J14 tg15)) ((some (.int v16)), (zS I17 J18 tg19)) ∧ ¬ (x3 < 0 ∨ 8 ≤ (x3).toNatClampNeg) ∧ Runs (GW L xs) (d + 1) 273 (48, [.ref 93, .int x1, .int x2, .int (x3 + 1)], [], (zS (up2 I17 110 ((x3).toNatClampNeg) v16) J18 tg19)) r)))))) : Runs (GW L xs) (d + 1) 273 (48, [.ref 93, .int x1, .int x2, .int x3], [], (zS I J tg)) r := by
  refine Runs.sN 5 (c' := (56, [.ref 93, .int x1, .int x2, .int x3], [.int (I 94 6), .int x3], (zS I J tg))) rfl ?_
  by_cases c20 : (I 94 6) ≤ x3
  · rw [if_pos c20] at h
    refine Runs.brT (P := (I 94 6) ≤ x3) (a := 146) (b := 59) (L := [.ref 93, .int x1, .int x2, .int x3]) (S := []) (z := (zS I J tg)) rfl c20 ?_
    subst h
    exact Runs.rt rfl
  · rw [if_neg c20] at h
    refine Runs.brF (P := (I 94 6) ≤ x3) (a := 146) (b := 59) (L := [.ref 93, .int x1, .int x2, .int x3]) (S := []) (z := (zS I J tg)) rfl c20 ?_
    refine Runs.sN 7 (c' := (72, [.ref 93, .int x1, .int x2, .int x3], [.int x3, .ref 109, .int 880, .ref 94, .ref 93], (zS I J tg))) rfl ?_
    obtain ⟨c21, h⟩ := h
    refine Runs.to (c' := (73, [.ref 93, .int x1, .int x2, .int x3], [.int (I 109 ((x3).toNatClampNeg)), .int 880, .ref 94, .ref 93], (zS I J tg))) (Runs.ild rfl (show (109 : Nat) < 114 by decide) rfl c21) ?_
    refine Runs.sN 1 (c' := (74, [.ref 93, .int x1, .int x2, .int x3], [.int (880 + (I 109 ((x3).toNatClampNeg))), .ref 94, .ref 93], (zS I J tg))) rfl ?_
    obtain ⟨c22, h⟩ := h
    refine Runs.to (c' := (75, [.ref 93, .int x1, .int x2, .int x3], [.int (I 94 ((880 + (I 109 ((x3).toNatClampNeg))).toNatClampNeg)), .ref 93], (zS I J tg))) (Runs.ild rfl (show (94 : Nat) < 114 by decide) rfl c22) ?_
    refine Runs.sN 1 (c' := (76, [.ref 93, .int x1, .int x2, .int x3], [.int x2, .int (I 94 ((880 + (I 109 ((x3).toNatClampNeg))).toNatClampNeg)), .ref 93], (zS I J tg))) rfl ?_
    obtain ⟨I1, J2, tg3, c23, h⟩ := h
    refine Runs.cl (cm := 203) (as := [.ref 93, .int (I 94 ((880 + (I 109 ((x3).toNatClampNeg))).toNatClampNeg)), .int x2]) (rest := []) (r1 := (none, (zS I1 J2 tg3))) rfl (Nat.le_of_ble_eq_true rfl) c23 ?_
    refine Runs.as (c' := (79, [.ref 93, .int x1, .int x2, .int x3], [], (zS I1 J2 tg3))) rfl ?_
    refine Runs.sN 9 (c' := (94, [.ref 93, .int x1, .int x2, .int x3], [.int (690 + x1), .ref 94, .ref 93, .int x3, .ref 110], (zS I1 J2 tg3))) rfl ?_
    obtain ⟨c24, h⟩ := h
    refine Runs.to (c' := (95, [.ref 93, .int x1, .int x2, .int x3], [.int (I1 94 ((690 + x1).toNatClampNeg)), .ref 93, .int x3, .ref 110], (zS I1 J2 tg3))) (Runs.ild rfl (show (94 : Nat) < 114 by decide) rfl c24) ?_
    refine Runs.sN 6 (c' := (103, [.ref 93, .int x1, .int x2, .int x3], [.int (x3 - 1), .ref 110, .ref 93, .int (I1 94 ((690 + x1).toNatClampNeg)), .ref 93, .int x3, .ref 110], (zS I1 J2 tg3))) rfl ?_
    obtain ⟨c25, h⟩ := h
    refine Runs.to (c' := (104, [.ref 93, .int x1, .int x2, .int x3], [.int (I1 110 ((x3 - 1).toNatClampNeg)), .ref 93, .int (I1 94 ((690 + x1).toNatClampNeg)), .ref 93, .int x3, .ref 110], (zS I1 J2 tg3))) (Runs.ild rfl (show (110 : Nat) < 114 by decide) rfl c25) ?_
    obtain ⟨v4, I5, J6, tg7, c26, h⟩ := h
    refine Runs.cl (cm := 272) (as := [.ref 93, .int (I1 110 ((x3 - 1).toNatClampNeg))]) (rest := [.int (I1 94 ((690 + x1).toNatClampNeg)), .ref 93, .int x3, .ref 110]) (r1 := ((some (.int v4)), (zS I5 J6 tg7))) rfl (Nat.le_of_ble_eq_true rfl) c26 ?_
    refine Runs.as (c' := (107, [.ref 93, .int x1, .int x2, .int x3], [.int v4, .int (I1 94 ((690 + x1).toNatClampNeg)), .ref 93, .int x3, .ref 110], (zS I5 J6 tg7))) rfl ?_
    refine Runs.sN 7 (c' := (117, [.ref 93, .int x1, .int x2, .int x3], [.int (I5 94 6), .int (x3 + 1), .int v4, .int (I1 94 ((690 + x1).toNatClampNeg)), .ref 93, .int x3, .ref 110], (zS I5 J6 tg7))) rfl ?_
    by_cases c27 : (I5 94 6) ≤ (x3 + 1)
    · rw [if_pos c27] at h
      refine Runs.brT (P := (I5 94 6) ≤ (x3 + 1)) (a := 135) (b := 120) (L := [.ref 93, .int x1, .int x2, .int x3]) (S := [.int v4, .int (I1 94 ((690 + x1).toNatClampNeg)), .ref 93, .int x3, .ref 110]) (z := (zS I5 J6 tg7)) rfl c27 ?_
      refine Runs.sN 1 (c' := (136, [.ref 93, .int x1, .int x2, .int x3], [.int 0, .int v4, .int (I1 94 ((690 + x1).toNatClampNeg)), .ref 93, .int x3, .ref 110], (zS I5 J6 tg7))) rfl ?_
      obtain ⟨v8, I9, J10, tg11, c28, h⟩ := h
      refine Runs.cl (cm := 204) (as := [.ref 93, .int (I1 94 ((690 + x1).toNatClampNeg)), .int v4, .int 0]) (rest := [.int x3, .ref 110]) (r1 := ((some (.int v8)), (zS I9 J10 tg11))) rfl (Nat.le_of_ble_eq_true rfl) c28 ?_
      refine Runs.as (c' := (139, [.ref 93, .int x1, .int x2, .int x3], [.int v8, .int x3, .ref 110], (zS I9 J10 tg11))) rfl ?_
      obtain ⟨c29, h⟩ := h
      refine Runs.to (c' := (140, [.ref 93, .int x1, .int x2, .int x3], [], (zS (up2 I9 110 ((x3).toNatClampNeg) v8) J10 tg11))) (Runs.ist rfl (show (110 : Nat) < 114 by decide) rfl c29) ?_
      refine Runs.sN 2 (c' := (48, [.ref 93, .int x1, .int x2, .int (x3 + 1)], [], (zS (up2 I9 110 ((x3).toNatClampNeg) v8) J10 tg11))) rfl ?_
      exact h
    · rw [if_neg c27] at h
      refine Runs.brF (P := (I5 94 6) ≤ (x3 + 1)) (a := 135) (b := 120) (L := [.ref 93, .int x1, .int x2, .int x3]) (S := [.int v4, .int (I1 94 ((690 + x1).toNatClampNeg)), .ref 93, .int x3, .ref 110]) (z := (zS I5 J6 tg7)) rfl c27 ?_
      refine Runs.sN 6 (c' := (128, [.ref 93, .int x1, .int x2, .int x3], [.int (x3 + 1), .ref 110, .ref 93, .int v4, .int (I1 94 ((690 + x1).toNatClampNeg)), .ref 93, .int x3, .ref 110], (zS I5 J6 tg7))) rfl ?_
      obtain ⟨c30, h⟩ := h
      refine Runs.to (c' := (129, [.ref 93, .int x1, .int x2, .int x3], [.int (I5 110 ((x3 + 1).toNatClampNeg)), .ref 93, .int v4, .int (I1 94 ((690 + x1).toNatClampNeg)), .ref 93, .int x3, .ref 110], (zS I5 J6 tg7))) (Runs.ild rfl (show (110 : Nat) < 114 by decide) rfl c30) ?_
      obtain ⟨v12, I13, J14, tg15, c31, h⟩ := h
      refine Runs.cl (cm := 272) (as := [.ref 93, .int (I5 110 ((x3 + 1).toNatClampNeg))]) (rest := [.int v4, .int (I1 94 ((690 + x1).toNatClampNeg)), .ref 93, .int x3, .ref 110]) (r1 := ((some (.int v12)), (zS I13 J14 tg15))) rfl (Nat.le_of_ble_eq_true rfl) c31 ?_
      refine Runs.as (c' := (132, [.ref 93, .int x1, .int x2, .int x3], [.int v12, .int v4, .int (I1 94 ((690 + x1).toNatClampNeg)), .ref 93, .int x3, .ref 110], (zS I13 J14 tg15))) rfl ?_
      refine Runs.sN 1 (c' := (136, [.ref 93, .int x1, .int x2, .int x3], [.int v12, .int v4, .int (I1 94 ((690 + x1).toNatClampNeg)), .ref 93, .int x3, .ref 110], (zS I13 J14 tg15))) rfl ?_
      obtain ⟨v16, I17, J18, tg19, c32, h⟩ := h
      refine Runs.cl (cm := 204) (as := [.ref 93, .int (I1 94 ((690 + x1).toNatClampNeg)), .int v4, .int v12]) (rest := [.int x3, .ref 110]) (r1 := ((some (.int v16)), (zS I17 J18 tg19))) rfl (Nat.le_of_ble_eq_true rfl) c32 ?_
      refine Runs.as (c' := (139, [.ref 93, .int x1, .int x2, .int x3], [.int v16, .int x3, .ref 110], (zS I17 J18 tg19))) rfl ?_
      obtain ⟨c33, h⟩ := h
      refine Runs.to (c' := (140, [.ref 93, .int x1, .int x2, .int x3], [], (zS (up2 I17 110 ((x3).toNatClampNeg) v16) J18 tg19))) (Runs.ist rfl (show (110 : Nat) < 114 by decide) rfl c33) ?_
      refine Runs.sN 2 (c' := (48, [.ref 93, .int x1, .int x2, .int (x3 + 1)], [], (zS (up2 I17 110 ((x3).toNatClampNeg) v16) J18 tg19))) rfl ?_
      exact h
-- X12_asHung 
theorem sg_274 {L d : Nat} {xs : Nat → Int32} (I : Nat → Nat → Int32) (J : Nat → Nat → Int64) (tg : Option Nat) {r : Option Value × SS} (h : (Runs (GW L xs) d 274 (2, [.ref 93, .int 0], [], (zS I J tg)) r)) : Runs (GW L xs) d 274 (0, [.ref 93, vU], [], (zS I J tg)) r := by
  refine Runs.sN 2 (c' := (2, [.ref 93, .int 0], [], (zS I J tg))) rfl ?_
  exact h
theorem sg_274_2 {L d : Nat} {xs : Nat → Int32} (I : Nat → Nat → Int32) (J : Nat → Nat → Int64) (tg : Option Nat) (x1 : Int32) {r : Option Value × SS} (h : ((if 8 ≤ x1 then (r = (none, (zS I J tg))) else (¬ (x1 < 0 ∨ 8 ≤ (x1).toNatClampNeg) ∧ Runs (GW L xs) d 274 (2, [.ref 93, .int (x1 + 1)], [], (zS (up2 I 109 ((x1).toNatClampNeg) x1) J tg)) r)))) : Runs (GW L xs) d 274 (2, [.ref 93, .int x1], [], (zS I J tg)) r := by
  refine Runs.sN 2 (c' := (5, [.ref 93, .int x1], [.int 8, .int x1], (zS I J tg))) rfl ?_
  by_cases c1 : 8 ≤ x1
  · rw [if_pos c1] at h
    refine Runs.brT (P := 8 ≤ x1) (a := 21) (b := 8) (L := [.ref 93, .int x1]) (S := []) (z := (zS I J tg)) rfl c1 ?_
    subst h
    exact Runs.rt rfl
  · rw [if_neg c1] at h
    refine Runs.brF (P := 8 ≤ x1) (a := 21) (b := 8) (L := [.ref 93, .int x1]) (S := []) (z := (zS I J tg)) rfl c1 ?_
    refine Runs.sN 4 (c' := (14, [.ref 93, .int x1], [.int x1, .int x1, .ref 109], (zS I J tg))) rfl ?_
    obtain ⟨c2, h⟩ := h
    refine Runs.to (c' := (15, [.ref 93, .int x1], [], (zS (up2 I 109 ((x1).toNatClampNeg) x1) J tg))) (Runs.ist rfl (show (109 : Nat) < 114 by decide) rfl c2) ?_
    refine Runs.sN 2 (c' := (2, [.ref 93, .int (x1 + 1)], [], (zS (up2 I 109 ((x1).toNatClampNeg) x1) J tg))) rfl ?_
    exact h
-- X12_among 
theorem sg_275 {L d : Nat} {xs : Nat → Int32} (I : Nat → Nat → Int32) (J : Nat → Nat → Int64) (tg : Option Nat) (a1 : Int32) (a2 : Int32) (a3 : Int32) {r : Option Value × SS} (h : (∃ (v19 : Int32) (I20 : Nat → Nat → Int32) (J21 : Nat → Nat → Int64) (tg22 : Option Nat), Runs (GW L xs) d 177 (0, [.int a1, .int 0, .int ((I 94 6) - 1)], [], (zS I J tg)) ((some (.int v19)), (zS I20 J21 tg22)) ∧ (if v19 = 0 then (r = (some (.int (-1)), (zS I20 J21 tg22))) else (∃ (v23 : Int32) (I24 : Nat → Nat → Int32) (J25 : Nat → Nat → Int64) (tg26 : Option Nat), Runs (GW L xs) d 182 (0, [.int a2], [], (zS I20 J21 tg22)) ((some (.int v23)), (zS I24 J25 tg26)) ∧ (if v23 = 0 then (r = (some (.int (-1)), (zS I24 J25 tg26))) else (∃ (v27 : Int32) (I28 : Nat → Nat → Int32) (J29 : Nat → Nat → Int64) (tg30 : Option Nat), Runs (GW L xs) d 182 (0, [.int a3], [], (zS I24 J25 tg26)) ((some (.int v27)), (zS I28 J29 tg30)) ∧ (if v27 = 0 then (r = (some (.int (-1)), (zS I28 J29 tg30))) else (∃ (I31 : Nat → Nat → Int32) (J32 : Nat → Nat → Int64) (tg33 : Option Nat), Runs (GW L xs) d 274 (0, [.ref 93, vU], [], (zS I28 J29 tg30)) (none, (zS I31 J32 tg33)) ∧ ∃ (I34 : Nat → Nat → Int32) (J35 : Nat → Nat → Int64) (tg36 : Option Nat), Runs (GW L xs) d 273 (0, [.ref 93, .int a2, .int a3, vU], [], (zS I31 J32 tg33)) (none, (zS I34 J35 tg36)) ∧ ¬ (a1 < 0 ∨ 8 ≤ (a1).toNatClampNeg) ∧ r = (some (.int (I34 110 ((a1).toNatClampNeg))), (zS I34 J35 tg36)))))))))) : Runs (GW L xs) (d + 1) 275 (0, [.ref 93, .int a1, .int a2, .int a3], [], (zS I J tg)) r := by
  refine Runs.sN 8 (c' := (11, [.ref 93, .int a1, .int a2, .int a3], [.int ((I 94 6) - 1), .int 0, .int a1], (zS I J tg))) rfl ?_
  obtain ⟨v19, I20, J21, tg22, c37, h⟩ := h
  refine Runs.cl (cm := 177) (as := [.int a1, .int 0, .int ((I 94 6) - 1)]) (rest := []) (r1 := ((some (.int v19)), (zS I20 J21 tg22))) rfl (Nat.le_of_ble_eq_true rfl) c37 ?_
  refine Runs.as (c' := (14, [.ref 93, .int a1, .int a2, .int a3], [.int v19], (zS I20 J21 tg22))) rfl ?_
  by_cases c38 : v19 = 0
  · rw [if_pos c38] at h
    refine Runs.brT (P := v19 = 0) (a := 31) (b := 17) (L := [.ref 93, .int a1, .int a2, .int a3]) (S := []) (z := (zS I20 J21 tg22)) rfl c38 ?_
    refine Runs.sN 1 (c' := (32, [.ref 93, .int a1, .int a2, .int a3], [.int (-1)], (zS I20 J21 tg22))) rfl ?_
    subst h
    exact Runs.rt rfl
  · rw [if_neg c38] at h
    refine Runs.brF (P := v19 = 0) (a := 31) (b := 17) (L := [.ref 93, .int a1, .int a2, .int a3]) (S := []) (z := (zS I20 J21 tg22)) rfl c38 ?_
    refine Runs.sN 1 (c' := (18, [.ref 93, .int a1, .int a2, .int a3], [.int a2], (zS I20 J21 tg22))) rfl ?_
    obtain ⟨v23, I24, J25, tg26, c39, h⟩ := h
    refine Runs.cl (cm := 182) (as := [.int a2]) (rest := []) (r1 := ((some (.int v23)), (zS I24 J25 tg26))) rfl (Nat.le_of_ble_eq_true rfl) c39 ?_
    refine Runs.as (c' := (21, [.ref 93, .int a1, .int a2, .int a3], [.int v23], (zS I24 J25 tg26))) rfl ?_
    by_cases c40 : v23 = 0
    · rw [if_pos c40] at h
      refine Runs.brT (P := v23 = 0) (a := 31) (b := 24) (L := [.ref 93, .int a1, .int a2, .int a3]) (S := []) (z := (zS I24 J25 tg26)) rfl c40 ?_
      refine Runs.sN 1 (c' := (32, [.ref 93, .int a1, .int a2, .int a3], [.int (-1)], (zS I24 J25 tg26))) rfl ?_
      subst h
      exact Runs.rt rfl
    · rw [if_neg c40] at h
      refine Runs.brF (P := v23 = 0) (a := 31) (b := 24) (L := [.ref 93, .int a1, .int a2, .int a3]) (S := []) (z := (zS I24 J25 tg26)) rfl c40 ?_
      refine Runs.sN 1 (c' := (25, [.ref 93, .int a1, .int a2, .int a3], [.int a3], (zS I24 J25 tg26))) rfl ?_
      obtain ⟨v27, I28, J29, tg30, c41, h⟩ := h
      refine Runs.cl (cm := 182) (as := [.int a3]) (rest := []) (r1 := ((some (.int v27)), (zS I28 J29 tg30))) rfl (Nat.le_of_ble_eq_true rfl) c41 ?_
      refine Runs.as (c' := (28, [.ref 93, .int a1, .int a2, .int a3], [.int v27], (zS I28 J29 tg30))) rfl ?_
      by_cases c42 : v27 = 0
      · rw [if_pos c42] at h
        refine Runs.brT (P := v27 = 0) (a := 31) (b := 33) (L := [.ref 93, .int a1, .int a2, .int a3]) (S := []) (z := (zS I28 J29 tg30)) rfl c42 ?_
        refine Runs.sN 1 (c' := (32, [.ref 93, .int a1, .int a2, .int a3], [.int (-1)], (zS I28 J29 tg30))) rfl ?_
        subst h
        exact Runs.rt rfl
      · rw [if_neg c42] at h
        refine Runs.brF (P := v27 = 0) (a := 31) (b := 33) (L := [.ref 93, .int a1, .int a2, .int a3]) (S := []) (z := (zS I28 J29 tg30)) rfl c42 ?_
        refine Runs.sN 1 (c' := (34, [.ref 93, .int a1, .int a2, .int a3], [.ref 93], (zS I28 J29 tg30))) rfl ?_
        obtain ⟨I31, J32, tg33, c43, h⟩ := h
        refine Runs.cl (cm := 274) (as := [.ref 93]) (rest := []) (r1 := (none, (zS I31 J32 tg33))) rfl (Nat.le_of_ble_eq_true rfl) c43 ?_
        refine Runs.as (c' := (37, [.ref 93, .int a1, .int a2, .int a3], [], (zS I31 J32 tg33))) rfl ?_
        refine Runs.sN 3 (c' := (40, [.ref 93, .int a1, .int a2, .int a3], [.int a3, .int a2, .ref 93], (zS I31 J32 tg33))) rfl ?_
        obtain ⟨I34, J35, tg36, c44, h⟩ := h
        refine Runs.cl (cm := 273) (as := [.ref 93, .int a2, .int a3]) (rest := []) (r1 := (none, (zS I34 J35 tg36))) rfl (Nat.le_of_ble_eq_true rfl) c44 ?_
        refine Runs.as (c' := (43, [.ref 93, .int a1, .int a2, .int a3], [], (zS I34 J35 tg36))) rfl ?_
        refine Runs.sN 3 (c' := (48, [.ref 93, .int a1, .int a2, .int a3], [.int a1, .ref 110], (zS I34 J35 tg36))) rfl ?_
        obtain ⟨c45, h⟩ := h
        refine Runs.to (c' := (49, [.ref 93, .int a1, .int a2, .int a3], [.int (I34 110 ((a1).toNatClampNeg))], (zS I34 J35 tg36))) (Runs.ild rfl (show (110 : Nat) < 114 by decide) rfl c45) ?_
        subst h
        exact Runs.rt rfl
-- X12_rowRights 
theorem sg_276 {L d : Nat} {xs : Nat → Int32} (I : Nat → Nat → Int32) (J : Nat → Nat → Int64) (tg : Option Nat) (a1 : Int32) {r : Option Value × SS} (h : (Runs (GW L xs) (d + 1) 276 (4, [.ref 93, .int a1, .int 0, .int 0, vU, vU], [], (zS I J tg)) r)) : Runs (GW L xs) (d + 1) 276 (0, [.ref 93, .int a1, vU, vU, vU, vU], [], (zS I J tg)) r := by
  refine Runs.sN 4 (c' := (4, [.ref 93, .int a1, .int 0, .int 0, vU, vU], [], (zS I J tg))) rfl ?_
  exact h
theorem sg_276_4 {L d : Nat} {xs : Nat → Int32} (I : Nat → Nat → Int32) (J : Nat → Nat → Int64) (tg : Option Nat) (x1 : Int32) (x2 : Int32) (x3 : Int32) {r : Option Value × SS} (h : ((if 6 ≤ x3 then (r = (some (.int x2), (zS I J tg))) else (¬ ((680 + x3) < 0 ∨ 1200 ≤ (680 + x3).toNatClampNeg) ∧ (if (I 94 ((680 + x3).toNatClampNeg)) = 0 then (Runs (GW L xs) (d + 1) 276 (4, [.ref 93, .int x1, .int x2, .int (x3 + 1), vU, vU], [], (zS I J tg)) r) else (∃ (I1 : Nat → Nat → Int32) (J2 : Nat → Nat → Int64) (tg3 : Option Nat), Runs (GW L xs) d 273 (0, [.ref 93, .int x3, .int x1, vU], [], (zS I J tg)) (none, (zS I1 J2 tg3)) ∧ Runs (GW L xs) (d + 1) 276 (35, [.ref 93, .int x1, .int x2, .int x3, .int 0, vU], [], (zS I1 J2 tg3)) r)))))) : Runs (GW L xs) (d + 1) 276 (4, [.ref 93, .int x1, .int x2, .int x3, vU, vU], [], (zS I J tg)) r := by
  refine Runs.sN 2 (c' := (7, [.ref 93, .int x1, .int x2, .int x3, vU, vU], [.int 6, .int x3], (zS I J tg))) rfl ?_
  by_cases c4 : 6 ≤ x3
  · rw [if_pos c4] at h
    refine Runs.brT (P := 6 ≤ x3) (a := 116) (b := 10) (L := [.ref 93, .int x1, .int x2, .int x3, vU, vU]) (S := []) (z := (zS I J tg)) rfl c4 ?_
    refine Runs.sN 1 (c' := (117, [.ref 93, .int x1, .int x2, .int x3, vU, vU], [.int x2], (zS I J tg))) rfl ?_
    subst h
    exact Runs.rt rfl
  · rw [if_neg c4] at h
    refine Runs.brF (P := 6 ≤ x3) (a := 116) (b := 10) (L := [.ref 93, .int x1, .int x2, .int x3, vU, vU]) (S := []) (z := (zS I J tg)) rfl c4 ?_
    refine Runs.sN 5 (c' := (19, [.ref 93, .int x1, .int x2, .int x3, vU, vU], [.int (680 + x3), .ref 94], (zS I J tg))) rfl ?_
    obtain ⟨c5, h⟩ := h
    refine Runs.to (c' := (20, [.ref 93, .int x1, .int x2, .int x3, vU, vU], [.int (I 94 ((680 + x3).toNatClampNeg))], (zS I J tg))) (Runs.ild rfl (show (94 : Nat) < 114 by decide) rfl c5) ?_
    by_cases c6 : (I 94 ((680 + x3).toNatClampNeg)) = 0
    · rw [if_pos c6] at h
      refine Runs.brT (P := (I 94 ((680 + x3).toNatClampNeg)) = 0) (a := 23) (b := 26) (L := [.ref 93, .int x1, .int x2, .int x3, vU, vU]) (S := []) (z := (zS I J tg)) rfl c6 ?_
      refine Runs.sN 3 (c' := (4, [.ref 93, .int x1, .int x2, .int (x3 + 1), vU, vU], [], (zS I J tg))) rfl ?_
      exact h
    · rw [if_neg c6] at h
      refine Runs.brF (P := (I 94 ((680 + x3).toNatClampNeg)) = 0) (a := 23) (b := 26) (L := [.ref 93, .int x1, .int x2, .int x3, vU, vU]) (S := []) (z := (zS I J tg)) rfl c6 ?_
      refine Runs.sN 3 (c' := (29, [.ref 93, .int x1, .int x2, .int x3, vU, vU], [.int x1, .int x3, .ref 93], (zS I J tg))) rfl ?_
      obtain ⟨I1, J2, tg3, c7, h⟩ := h
      refine Runs.cl (cm := 273) (as := [.ref 93, .int x3, .int x1]) (rest := []) (r1 := (none, (zS I1 J2 tg3))) rfl (Nat.le_of_ble_eq_true rfl) c7 ?_
      refine Runs.as (c' := (32, [.ref 93, .int x1, .int x2, .int x3, vU, vU], [], (zS I1 J2 tg3))) rfl ?_
      refine Runs.sN 2 (c' := (35, [.ref 93, .int x1, .int x2, .int x3, .int 0, vU], [], (zS I1 J2 tg3))) rfl ?_
      exact h
theorem sg_276_35 {L d : Nat} {xs : Nat → Int32} (I : Nat → Nat → Int32) (J : Nat → Nat → Int64) (tg : Option Nat) (x1 : Int32) (x2 : Int32) (x3 : Int32) (x4 : Int32) {r : Option Value × SS} (h : ((if (I 94 6) ≤ x4 then (Runs (GW L xs) (d + 1) 276 (4, [.ref 93, .int x1, .int x2, .int (x3 + 1), vU, vU], [], (zS I J tg)) r) else (¬ (x4 < 0 ∨ 8 ≤ (x4).toNatClampNeg) ∧ ¬ ((880 + (I 109 ((x4).toNatClampNeg))) < 0 ∨ 1200 ≤ (880 + (I 109 ((x4).toNatClampNeg))).toNatClampNeg) ∧ ∃ (v1 : Int32) (I2 : Nat → Nat → Int32) (J3 : Nat → Nat → Int64) (tg4 : Option Nat), Runs (GW L xs) d 246 (0, [.ref 93, .int (I 94 ((880 + (I 109 ((x4).toNatClampNeg))).toNatClampNeg)), .int x3], [], (zS I J tg)) ((some (.int v1)), (zS I2 J3 tg4)) ∧ (if v1 = 0 then (¬ (x4 < 0 ∨ 8 ≤ (x4).toNatClampNeg) ∧ ∃ (v5 : Int32) (I6 : Nat → Nat → Int32) (J7 : Nat → Nat → Int64) (tg8 : Option Nat), Runs (GW L xs) d 245 (0, [.ref 93, .int (I 94 ((880 + (I 109 ((x4).toNatClampNeg))).toNatClampNeg)), .int (I2 110 ((x4).toNatClampNeg))], [], (zS I2 J3 tg4)) ((some (.int v5)), (zS I6 J7 tg8)) ∧ (if v5 = 0 then (Runs (GW L xs) (d + 1) 276 (35, [.ref 93, .int x1, .int x2, .int x3, .int (x4 + 1), vU], [], (zS I6 J7 tg8)) r) else (¬ ((680 + x3) < 0 ∨ 1200 ≤ (680 + x3).toNatClampNeg) ∧ Runs (GW L xs) (d + 1) 276 (35, [.ref 93, .int x1, .int (x2 + (I6 94 ((680 + x3).toNatClampNeg))), .int x3, .int (x4 + 1), vU], [], (zS I6 J7 tg8)) r))) else (¬ ((680 + x3) < 0 ∨ 1200 ≤ (680 + x3).toNatClampNeg) ∧ Runs (GW L xs) (d + 1) 276 (35, [.ref 93, .int x1, .int (x2 + (I2 94 ((680 + x3).toNatClampNeg))), .int x3, .int (x4 + 1), vU], [], (zS I2 J3 tg4)) r)))))) : Runs (GW L xs) (d + 1) 276 (35, [.ref 93, .int x1, .int x2, .int x3, .int x4, vU], [], (zS I J tg)) r := by
  refine Runs.sN 5 (c' := (44, [.ref 93, .int x1, .int x2, .int x3, .int x4, vU], [.int (I 94 6), .int x4], (zS I J tg))) rfl ?_
  by_cases c9 : (I 94 6) ≤ x4
  · rw [if_pos c9] at h
    refine Runs.brT (P := (I 94 6) ≤ x4) (a := 110) (b := 47) (L := [.ref 93, .int x1, .int x2, .int x3, .int x4, vU]) (S := []) (z := (zS I J tg)) rfl c9 ?_
    refine Runs.sN 2 (c' := (4, [.ref 93, .int x1, .int x2, .int (x3 + 1), .int x4, vU], [], (zS I J tg))) rfl ?_
    exact Runs.weak (L := [.ref 93, .int x1, .int x2, .int (x3 + 1), vU, vU]) (Lle.k (Lle.k (Lle.k (Lle.k (Lle.u (Lle.k Lle.n)))))) h
  · rw [if_neg c9] at h
    refine Runs.brF (P := (I 94 6) ≤ x4) (a := 110) (b := 47) (L := [.ref 93, .int x1, .int x2, .int x3, .int x4, vU]) (S := []) (z := (zS I J tg)) rfl c9 ?_
    refine Runs.sN 6 (c' := (60, [.ref 93, .int x1, .int x2, .int x3, .int x4, vU], [.int x4, .ref 109, .int 880, .ref 94], (zS I J tg))) rfl ?_
    obtain ⟨c10, h⟩ := h
    refine Runs.to (c' := (61, [.ref 93, .int x1, .int x2, .int x3, .int x4, vU], [.int (I 109 ((x4).toNatClampNeg)), .int 880, .ref 94], (zS I J tg))) (Runs.ild rfl (show (109 : Nat) < 114 by decide) rfl c10) ?_
    refine Runs.sN 1 (c' := (62, [.ref 93, .int x1, .int x2, .int x3, .int x4, vU], [.int (880 + (I 109 ((x4).toNatClampNeg))), .ref 94], (zS I J tg))) rfl ?_
    obtain ⟨c11, h⟩ := h
    refine Runs.to (c' := (63, [.ref 93, .int x1, .int x2, .int x3, .int x4, vU], [.int (I 94 ((880 + (I 109 ((x4).toNatClampNeg))).toNatClampNeg))], (zS I J tg))) (Runs.ild rfl (show (94 : Nat) < 114 by decide) rfl c11) ?_
    refine Runs.sN 4 (c' := (69, [.ref 93, .int x1, .int x2, .int x3, .int x4, .int (I 94 ((880 + (I 109 ((x4).toNatClampNeg))).toNatClampNeg))], [.int x3, .int (I 94 ((880 + (I 109 ((x4).toNatClampNeg))).toNatClampNeg)), .ref 93], (zS I J tg))) rfl ?_
    obtain ⟨v1, I2, J3, tg4, c12, h⟩ := h
    refine Runs.cl (cm := 246) (as := [.ref 93, .int (I 94 ((880 + (I 109 ((x4).toNatClampNeg))).toNatClampNeg)), .int x3]) (rest := []) (r1 := ((some (.int v1)), (zS I2 J3 tg4))) rfl (Nat.le_of_ble_eq_true rfl) c12 ?_
    refine Runs.as (c' := (72, [.ref 93, .int x1, .int x2, .int x3, .int x4, .int (I 94 ((880 + (I 109 ((x4).toNatClampNeg))).toNatClampNeg))], [.int v1], (zS I2 J3 tg4))) rfl ?_
    by_cases c13 : v1 = 0
    · rw [if_pos c13] at h
      refine Runs.brT (P := v1 = 0) (a := 75) (b := 91) (L := [.ref 93, .int x1, .int x2, .int x3, .int x4, .int (I 94 ((880 + (I 109 ((x4).toNatClampNeg))).toNatClampNeg))]) (S := []) (z := (zS I2 J3 tg4)) rfl c13 ?_
      refine Runs.sN 5 (c' := (84, [.ref 93, .int x1, .int x2, .int x3, .int x4, .int (I 94 ((880 + (I 109 ((x4).toNatClampNeg))).toNatClampNeg))], [.int x4, .ref 110, .int (I 94 ((880 + (I 109 ((x4).toNatClampNeg))).toNatClampNeg)), .ref 93], (zS I2 J3 tg4))) rfl ?_
      obtain ⟨c14, h⟩ := h
      refine Runs.to (c' := (85, [.ref 93, .int x1, .int x2, .int x3, .int x4, .int (I 94 ((880 + (I 109 ((x4).toNatClampNeg))).toNatClampNeg))], [.int (I2 110 ((x4).toNatClampNeg)), .int (I 94 ((880 + (I 109 ((x4).toNatClampNeg))).toNatClampNeg)), .ref 93], (zS I2 J3 tg4))) (Runs.ild rfl (show (110 : Nat) < 114 by decide) rfl c14) ?_
      obtain ⟨v5, I6, J7, tg8, c15, h⟩ := h
      refine Runs.cl (cm := 245) (as := [.ref 93, .int (I 94 ((880 + (I 109 ((x4).toNatClampNeg))).toNatClampNeg)), .int (I2 110 ((x4).toNatClampNeg))]) (rest := []) (r1 := ((some (.int v5)), (zS I6 J7 tg8))) rfl (Nat.le_of_ble_eq_true rfl) c15 ?_
      refine Runs.as (c' := (88, [.ref 93, .int x1, .int x2, .int x3, .int x4, .int (I 94 ((880 + (I 109 ((x4).toNatClampNeg))).toNatClampNeg))], [.int v5], (zS I6 J7 tg8))) rfl ?_
      by_cases c16 : v5 = 0
      · rw [if_pos c16] at h
        refine Runs.brT (P := v5 = 0) (a := 104) (b := 91) (L := [.ref 93, .int x1, .int x2, .int x3, .int x4, .int (I 94 ((880 + (I 109 ((x4).toNatClampNeg))).toNatClampNeg))]) (S := []) (z := (zS I6 J7 tg8)) rfl c16 ?_
        refine Runs.sN 2 (c' := (35, [.ref 93, .int x1, .int x2, .int x3, .int (x4 + 1), .int (I 94 ((880 + (I 109 ((x4).toNatClampNeg))).toNatClampNeg))], [], (zS I6 J7 tg8))) rfl ?_
        exact Runs.weak (L := [.ref 93, .int x1, .int x2, .int x3, .int (x4 + 1), vU]) (Lle.k (Lle.k (Lle.k (Lle.k (Lle.k (Lle.u Lle.n)))))) h
      · rw [if_neg c16] at h
        refine Runs.brF (P := v5 = 0) (a := 104) (b := 91) (L := [.ref 93, .int x1, .int x2, .int x3, .int x4, .int (I 94 ((880 + (I 109 ((x4).toNatClampNeg))).toNatClampNeg))]) (S := []) (z := (zS I6 J7 tg8)) rfl c16 ?_
        refine Runs.sN 6 (c' := (101, [.ref 93, .int x1, .int x2, .int x3, .int x4, .int (I 94 ((880 + (I 109 ((x4).toNatClampNeg))).toNatClampNeg))], [.int (680 + x3), .ref 94, .int x2], (zS I6 J7 tg8))) rfl ?_
        obtain ⟨c17, h⟩ := h
        refine Runs.to (c' := (102, [.ref 93, .int x1, .int x2, .int x3, .int x4, .int (I 94 ((880 + (I 109 ((x4).toNatClampNeg))).toNatClampNeg))], [.int (I6 94 ((680 + x3).toNatClampNeg)), .int x2], (zS I6 J7 tg8))) (Runs.ild rfl (show (94 : Nat) < 114 by decide) rfl c17) ?_
        refine Runs.sN 4 (c' := (35, [.ref 93, .int x1, .int (x2 + (I6 94 ((680 + x3).toNatClampNeg))), .int x3, .int (x4 + 1), .int (I 94 ((880 + (I 109 ((x4).toNatClampNeg))).toNatClampNeg))], [], (zS I6 J7 tg8))) rfl ?_
        exact Runs.weak (L := [.ref 93, .int x1, .int (x2 + (I6 94 ((680 + x3).toNatClampNeg))), .int x3, .int (x4 + 1), vU]) (Lle.k (Lle.k (Lle.k (Lle.k (Lle.k (Lle.u Lle.n)))))) h
    · rw [if_neg c13] at h
      refine Runs.brF (P := v1 = 0) (a := 75) (b := 91) (L := [.ref 93, .int x1, .int x2, .int x3, .int x4, .int (I 94 ((880 + (I 109 ((x4).toNatClampNeg))).toNatClampNeg))]) (S := []) (z := (zS I2 J3 tg4)) rfl c13 ?_
      refine Runs.sN 6 (c' := (101, [.ref 93, .int x1, .int x2, .int x3, .int x4, .int (I 94 ((880 + (I 109 ((x4).toNatClampNeg))).toNatClampNeg))], [.int (680 + x3), .ref 94, .int x2], (zS I2 J3 tg4))) rfl ?_
      obtain ⟨c18, h⟩ := h
      refine Runs.to (c' := (102, [.ref 93, .int x1, .int x2, .int x3, .int x4, .int (I 94 ((880 + (I 109 ((x4).toNatClampNeg))).toNatClampNeg))], [.int (I2 94 ((680 + x3).toNatClampNeg)), .int x2], (zS I2 J3 tg4))) (Runs.ild rfl (show (94 : Nat) < 114 by decide) rfl c18) ?_
      refine Runs.sN 4 (c' := (35, [.ref 93, .int x1, .int (x2 + (I2 94 ((680 + x3).toNatClampNeg))), .int x3, .int (x4 + 1), .int (I 94 ((880 + (I 109 ((x4).toNatClampNeg))).toNatClampNeg))], [], (zS I2 J3 tg4))) rfl ?_
      exact Runs.weak (L := [.ref 93, .int x1, .int (x2 + (I2 94 ((680 + x3).toNatClampNeg))), .int x3, .int (x4 + 1), vU]) (Lle.k (Lle.k (Lle.k (Lle.k (Lle.k (Lle.u Lle.n)))))) h
-- X12_nextOrder 
theorem sg_277 {L d : Nat} {xs : Nat → Int32} (I : Nat → Nat → Int32) (J : Nat → Nat → Int64) (tg : Option Nat) (a1 : Int32) {r : Option Value × SS} (h : (Runs (GW L xs) d 277 (4, [.ref 93, .int a1, .int (a1 - 2), vU, vU, vU, vU], [], (zS I J tg)) r)) : Runs (GW L xs) d 277 (0, [.ref 93, .int a1, vU, vU, vU, vU, vU], [], (zS I J tg)) r := by
  refine Runs.sN 4 (c' := (4, [.ref 93, .int a1, .int (a1 - 2), vU, vU, vU, vU], [], (zS I J tg))) rfl ?_
  exact h
theorem sg_277_4 {L d : Nat} {xs : Nat → Int32} (I : Nat → Nat → Int32) (J : Nat → Nat → Int64) (tg : Option Nat) (x1 : Int32) (x2 : Int32) {r : Option Value × SS} (h : ((if x2 < 0 then ((if 0 ≤ x2 then (Runs (GW L xs) d 277 (41, [.ref 93, .int x1, .int x2, .int (x1 - 1), vU, vU, vU], [], (zS I J tg)) r) else (r = (some (.int 0), (zS I J tg))))) else (¬ (x2 < 0 ∨ 8 ≤ (x2).toNatClampNeg) ∧ ¬ ((x2 + 1) < 0 ∨ 8 ≤ (x2 + 1).toNatClampNeg) ∧ (if (I 109 ((x2).toNatClampNeg)) ≤ (I 109 ((x2 + 1).toNatClampNeg)) then ((if 0 ≤ x2 then (Runs (GW L xs) d 277 (41, [.ref 93, .int x1, .int x2, .int (x1 - 1), vU, vU, vU], [], (zS I J tg)) r) else (r = (some (.int 0), (zS I J tg))))) else (Runs (GW L xs) d 277 (4, [.ref 93, .int x1, .int (x2 + (-1)), vU, vU, vU, vU], [], (zS I J tg)) r)))))) : Runs (GW L xs) d 277 (4, [.ref 93, .int x1, .int x2, vU, vU, vU, vU], [], (zS I J tg)) r := by
  refine Runs.sN 1 (c' := (5, [.ref 93, .int x1, .int x2, vU, vU, vU, vU], [.int x2], (zS I J tg))) rfl ?_
  by_cases c1 : x2 < 0
  · rw [if_pos c1] at h
    refine Runs.brT (P := x2 < 0) (a := 31) (b := 8) (L := [.ref 93, .int x1, .int x2, vU, vU, vU, vU]) (S := []) (z := (zS I J tg)) rfl c1 ?_
    refine Runs.sN 1 (c' := (32, [.ref 93, .int x1, .int x2, vU, vU, vU, vU], [.int x2], (zS I J tg))) rfl ?_
    by_cases c2 : 0 ≤ x2
    · rw [if_pos c2] at h
      refine Runs.brT (P := 0 ≤ x2) (a := 37) (b := 35) (L := [.ref 93, .int x1, .int x2, vU, vU, vU, vU]) (S := []) (z := (zS I J tg)) rfl c2 ?_
      refine Runs.sN 4 (c' := (41, [.ref 93, .int x1, .int x2, .int (x1 - 1), vU, vU, vU], [], (zS I J tg))) rfl ?_
      exact h
    · rw [if_neg c2] at h
      refine Runs.brF (P := 0 ≤ x2) (a := 37) (b := 35) (L := [.ref 93, .int x1, .int x2, vU, vU, vU, vU]) (S := []) (z := (zS I J tg)) rfl c2 ?_
      refine Runs.sN 1 (c' := (36, [.ref 93, .int x1, .int x2, vU, vU, vU, vU], [.int 0], (zS I J tg))) rfl ?_
      subst h
      exact Runs.rt rfl
  · rw [if_neg c1] at h
    refine Runs.brF (P := x2 < 0) (a := 31) (b := 8) (L := [.ref 93, .int x1, .int x2, vU, vU, vU, vU]) (S := []) (z := (zS I J tg)) rfl c1 ?_
    refine Runs.sN 3 (c' := (13, [.ref 93, .int x1, .int x2, vU, vU, vU, vU], [.int x2, .ref 109], (zS I J tg))) rfl ?_
    obtain ⟨c3, h⟩ := h
    refine Runs.to (c' := (14, [.ref 93, .int x1, .int x2, vU, vU, vU, vU], [.int (I 109 ((x2).toNatClampNeg))], (zS I J tg))) (Runs.ild rfl (show (109 : Nat) < 114 by decide) rfl c3) ?_
    refine Runs.sN 5 (c' := (21, [.ref 93, .int x1, .int x2, vU, vU, vU, vU], [.int (x2 + 1), .ref 109, .int (I 109 ((x2).toNatClampNeg))], (zS I J tg))) rfl ?_
    obtain ⟨c4, h⟩ := h
    refine Runs.to (c' := (22, [.ref 93, .int x1, .int x2, vU, vU, vU, vU], [.int (I 109 ((x2 + 1).toNatClampNeg)), .int (I 109 ((x2).toNatClampNeg))], (zS I J tg))) (Runs.ild rfl (show (109 : Nat) < 114 by decide) rfl c4) ?_
    by_cases c5 : (I 109 ((x2).toNatClampNeg)) ≤ (I 109 ((x2 + 1).toNatClampNeg))
    · rw [if_pos c5] at h
      refine Runs.brT (P := (I 109 ((x2).toNatClampNeg)) ≤ (I 109 ((x2 + 1).toNatClampNeg))) (a := 31) (b := 25) (L := [.ref 93, .int x1, .int x2, vU, vU, vU, vU]) (S := []) (z := (zS I J tg)) rfl c5 ?_
      refine Runs.sN 1 (c' := (32, [.ref 93, .int x1, .int x2, vU, vU, vU, vU], [.int x2], (zS I J tg))) rfl ?_
      by_cases c6 : 0 ≤ x2
      · rw [if_pos c6] at h
        refine Runs.brT (P := 0 ≤ x2) (a := 37) (b := 35) (L := [.ref 93, .int x1, .int x2, vU, vU, vU, vU]) (S := []) (z := (zS I J tg)) rfl c6 ?_
        refine Runs.sN 4 (c' := (41, [.ref 93, .int x1, .int x2, .int (x1 - 1), vU, vU, vU], [], (zS I J tg))) rfl ?_
        exact h
      · rw [if_neg c6] at h
        refine Runs.brF (P := 0 ≤ x2) (a := 37) (b := 35) (L := [.ref 93, .int x1, .int x2, vU, vU, vU, vU]) (S := []) (z := (zS I J tg)) rfl c6 ?_
        refine Runs.sN 1 (c' := (36, [.ref 93, .int x1, .int x2, vU, vU, vU, vU], [.int 0], (zS I J tg))) rfl ?_
        subst h
        exact Runs.rt rfl
    · rw [if_neg c5] at h
      refine Runs.brF (P := (I 109 ((x2).toNatClampNeg)) ≤ (I 109 ((x2 + 1).toNatClampNeg))) (a := 31) (b := 25) (L := [.ref 93, .int x1, .int x2, vU, vU, vU, vU]) (S := []) (z := (zS I J tg)) rfl c5 ?_
      refine Runs.sN 2 (c' := (4, [.ref 93, .int x1, .int (x2 + (-1)), vU, vU, vU, vU], [], (zS I J tg))) rfl ?_
      exact h
theorem sg_277_41 {L d : Nat} {xs : Nat → Int32} (I : Nat → Nat → Int32) (J : Nat → Nat → Int64) (tg : Option Nat) (x1 : Int32) (x2 : Int32) (x3 : Int32) {r : Option Value × SS} (h : (¬ (x3 < 0 ∨ 8 ≤ (x3).toNatClampNeg) ∧ ¬ (x2 < 0 ∨ 8 ≤ (x2).toNatClampNeg) ∧ (if (I 109 ((x2).toNatClampNeg)) ≤ (I 109 ((x3).toNatClampNeg)) then (¬ (x2 < 0 ∨ 8 ≤ (x2).toNatClampNeg) ∧ ¬ (x3 < 0 ∨ 8 ≤ (x3).toNatClampNeg) ∧ ¬ (x2 < 0 ∨ 8 ≤ (x2).toNatClampNeg) ∧ ¬ (x3 < 0 ∨ 8 ≤ (x3).toNatClampNeg) ∧ Runs (GW L xs) d 277 (100, [.ref 93, .int x1, .int x2, .int x3, .int (I 109 ((x2).toNatClampNeg)), .int (x2 + 1), .int (x1 - 1)], [], (zS (up2 (up2 I 109 ((x2).toNatClampNeg) (I 109 ((x3).toNatClampNeg))) 109 ((x3).toNatClampNeg) (I 109 ((x2).toNatClampNeg))) J tg)) r) else (Runs (GW L xs) d 277 (41, [.ref 93, .int x1, .int x2, .int (x3 + (-1)), vU, vU, vU], [], (zS I J tg)) r)))) : Runs (GW L xs) d 277 (41, [.ref 93, .int x1, .int x2, .int x3, vU, vU, vU], [], (zS I J tg)) r := by
  refine Runs.sN 3 (c' := (46, [.ref 93, .int x1, .int x2, .int x3, vU, vU, vU], [.int x3, .ref 109], (zS I J tg))) rfl ?_
  obtain ⟨c1, h⟩ := h
  refine Runs.to (c' := (47, [.ref 93, .int x1, .int x2, .int x3, vU, vU, vU], [.int (I 109 ((x3).toNatClampNeg))], (zS I J tg))) (Runs.ild rfl (show (109 : Nat) < 114 by decide) rfl c1) ?_
  refine Runs.sN 3 (c' := (52, [.ref 93, .int x1, .int x2, .int x3, vU, vU, vU], [.int x2, .ref 109, .int (I 109 ((x3).toNatClampNeg))], (zS I J tg))) rfl ?_
  obtain ⟨c2, h⟩ := h
  refine Runs.to (c' := (53, [.ref 93, .int x1, .int x2, .int x3, vU, vU, vU], [.int (I 109 ((x2).toNatClampNeg)), .int (I 109 ((x3).toNatClampNeg))], (zS I J tg))) (Runs.ild rfl (show (109 : Nat) < 114 by decide) rfl c2) ?_
  by_cases c3 : (I 109 ((x2).toNatClampNeg)) ≤ (I 109 ((x3).toNatClampNeg))
  · rw [if_pos c3] at h
    refine Runs.brT (P := (I 109 ((x2).toNatClampNeg)) ≤ (I 109 ((x3).toNatClampNeg))) (a := 62) (b := 56) (L := [.ref 93, .int x1, .int x2, .int x3, vU, vU, vU]) (S := []) (z := (zS I J tg)) rfl c3 ?_
    refine Runs.sN 3 (c' := (67, [.ref 93, .int x1, .int x2, .int x3, vU, vU, vU], [.int x2, .ref 109], (zS I J tg))) rfl ?_
    obtain ⟨c4, h⟩ := h
    refine Runs.to (c' := (68, [.ref 93, .int x1, .int x2, .int x3, vU, vU, vU], [.int (I 109 ((x2).toNatClampNeg))], (zS I J tg))) (Runs.ild rfl (show (109 : Nat) < 114 by decide) rfl c4) ?_
    refine Runs.sN 7 (c' := (80, [.ref 93, .int x1, .int x2, .int x3, .int (I 109 ((x2).toNatClampNeg)), vU, vU], [.int x3, .ref 109, .int x2, .ref 109], (zS I J tg))) rfl ?_
    obtain ⟨c5, h⟩ := h
    refine Runs.to (c' := (81, [.ref 93, .int x1, .int x2, .int x3, .int (I 109 ((x2).toNatClampNeg)), vU, vU], [.int (I 109 ((x3).toNatClampNeg)), .int x2, .ref 109], (zS I J tg))) (Runs.ild rfl (show (109 : Nat) < 114 by decide) rfl c5) ?_
    obtain ⟨c6, h⟩ := h
    refine Runs.to (c' := (82, [.ref 93, .int x1, .int x2, .int x3, .int (I 109 ((x2).toNatClampNeg)), vU, vU], [], (zS (up2 I 109 ((x2).toNatClampNeg) (I 109 ((x3).toNatClampNeg))) J tg))) (Runs.ist rfl (show (109 : Nat) < 114 by decide) rfl c6) ?_
    refine Runs.sN 4 (c' := (89, [.ref 93, .int x1, .int x2, .int x3, .int (I 109 ((x2).toNatClampNeg)), vU, vU], [.int (I 109 ((x2).toNatClampNeg)), .int x3, .ref 109], (zS (up2 I 109 ((x2).toNatClampNeg) (I 109 ((x3).toNatClampNeg))) J tg))) rfl ?_
    obtain ⟨c7, h⟩ := h
    refine Runs.to (c' := (90, [.ref 93, .int x1, .int x2, .int x3, .int (I 109 ((x2).toNatClampNeg)), vU, vU], [], (zS (up2 (up2 I 109 ((x2).toNatClampNeg) (I 109 ((x3).toNatClampNeg))) 109 ((x3).toNatClampNeg) (I 109 ((x2).toNatClampNeg))) J tg))) (Runs.ist rfl (show (109 : Nat) < 114 by decide) rfl c7) ?_
    refine Runs.sN 8 (c' := (100, [.ref 93, .int x1, .int x2, .int x3, .int (I 109 ((x2).toNatClampNeg)), .int (x2 + 1), .int (x1 - 1)], [], (zS (up2 (up2 I 109 ((x2).toNatClampNeg) (I 109 ((x3).toNatClampNeg))) 109 ((x3).toNatClampNeg) (I 109 ((x2).toNatClampNeg))) J tg))) rfl ?_
    exact h
  · rw [if_neg c3] at h
    refine Runs.brF (P := (I 109 ((x2).toNatClampNeg)) ≤ (I 109 ((x3).toNatClampNeg))) (a := 62) (b := 56) (L := [.ref 93, .int x1, .int x2, .int x3, vU, vU, vU]) (S := []) (z := (zS I J tg)) rfl c3 ?_
    refine Runs.sN 2 (c' := (41, [.ref 93, .int x1, .int x2, .int (x3 + (-1)), vU, vU, vU], [], (zS I J tg))) rfl ?_
    exact h
theorem sg_277_100 {L d : Nat} {xs : Nat → Int32} (I : Nat → Nat → Int32) (J : Nat → Nat → Int64) (tg : Option Nat) (x1 : Int32) (x2 : Int32) (x3 : Int32) (x4 : Int32) (x5 : Int32) (x6 : Int32) {r : Option Value × SS} (h : ((if x6 ≤ x5 then (r = (some (.int 1), (zS I J tg))) else (¬ (x5 < 0 ∨ 8 ≤ (x5).toNatClampNeg) ∧ ¬ (x6 < 0 ∨ 8 ≤ (x6).toNatClampNeg) ∧ ¬ (x5 < 0 ∨ 8 ≤ (x5).toNatClampNeg) ∧ ¬ (x6 < 0 ∨ 8 ≤ (x6).toNatClampNeg) ∧ Runs (GW L xs) d 277 (100, [.ref 93, .int x1, .int x2, .int x3, .int (I 109 ((x5).toNatClampNeg)), .int (x5 + 1), .int (x6 + (-1))], [], (zS (up2 (up2 I 109 ((x5).toNatClampNeg) (I 109 ((x6).toNatClampNeg))) 109 ((x6).toNatClampNeg) (I 109 ((x5).toNatClampNeg))) J tg)) r)))) : Runs (GW L xs) d 277 (100, [.ref 93, .int x1, .int x2, .int x3, .int x4, .int x5, .int x6], [], (zS I J tg)) r := by
  refine Runs.sN 2 (c' := (104, [.ref 93, .int x1, .int x2, .int x3, .int x4, .int x5, .int x6], [.int x6, .int x5], (zS I J tg))) rfl ?_
  by_cases c1 : x6 ≤ x5
  · rw [if_pos c1] at h
    refine Runs.brT (P := x6 ≤ x5) (a := 148) (b := 107) (L := [.ref 93, .int x1, .int x2, .int x3, .int x4, .int x5, .int x6]) (S := []) (z := (zS I J tg)) rfl c1 ?_
    refine Runs.sN 1 (c' := (149, [.ref 93, .int x1, .int x2, .int x3, .int x4, .int x5, .int x6], [.int 1], (zS I J tg))) rfl ?_
    subst h
    exact Runs.rt rfl
  · rw [if_neg c1] at h
    refine Runs.brF (P := x6 ≤ x5) (a := 148) (b := 107) (L := [.ref 93, .int x1, .int x2, .int x3, .int x4, .int x5, .int x6]) (S := []) (z := (zS I J tg)) rfl c1 ?_
    refine Runs.sN 3 (c' := (113, [.ref 93, .int x1, .int x2, .int x3, .int x4, .int x5, .int x6], [.int x5, .ref 109], (zS I J tg))) rfl ?_
    obtain ⟨c2, h⟩ := h
    refine Runs.to (c' := (114, [.ref 93, .int x1, .int x2, .int x3, .int x4, .int x5, .int x6], [.int (I 109 ((x5).toNatClampNeg))], (zS I J tg))) (Runs.ild rfl (show (109 : Nat) < 114 by decide) rfl c2) ?_
    refine Runs.sN 7 (c' := (128, [.ref 93, .int x1, .int x2, .int x3, .int (I 109 ((x5).toNatClampNeg)), .int x5, .int x6], [.int x6, .ref 109, .int x5, .ref 109], (zS I J tg))) rfl ?_
    obtain ⟨c3, h⟩ := h
    refine Runs.to (c' := (129, [.ref 93, .int x1, .int x2, .int x3, .int (I 109 ((x5).toNatClampNeg)), .int x5, .int x6], [.int (I 109 ((x6).toNatClampNeg)), .int x5, .ref 109], (zS I J tg))) (Runs.ild rfl (show (109 : Nat) < 114 by decide) rfl c3) ?_
    obtain ⟨c4, h⟩ := h
    refine Runs.to (c' := (130, [.ref 93, .int x1, .int x2, .int x3, .int (I 109 ((x5).toNatClampNeg)), .int x5, .int x6], [], (zS (up2 I 109 ((x5).toNatClampNeg) (I 109 ((x6).toNatClampNeg))) J tg))) (Runs.ist rfl (show (109 : Nat) < 114 by decide) rfl c4) ?_
    refine Runs.sN 4 (c' := (138, [.ref 93, .int x1, .int x2, .int x3, .int (I 109 ((x5).toNatClampNeg)), .int x5, .int x6], [.int (I 109 ((x5).toNatClampNeg)), .int x6, .ref 109], (zS (up2 I 109 ((x5).toNatClampNeg) (I 109 ((x6).toNatClampNeg))) J tg))) rfl ?_
    obtain ⟨c5, h⟩ := h
    refine Runs.to (c' := (139, [.ref 93, .int x1, .int x2, .int x3, .int (I 109 ((x5).toNatClampNeg)), .int x5, .int x6], [], (zS (up2 (up2 I 109 ((x5).toNatClampNeg) (I 109 ((x6).toNatClampNeg))) 109 ((x6).toNatClampNeg) (I 109 ((x5).toNatClampNeg))) J tg))) (Runs.ist rfl (show (109 : Nat) < 114 by decide) rfl c5) ?_
    refine Runs.sN 3 (c' := (100, [.ref 93, .int x1, .int x2, .int x3, .int (I 109 ((x5).toNatClampNeg)), .int (x5 + 1), .int (x6 + (-1))], [], (zS (up2 (up2 I 109 ((x5).toNatClampNeg) (I 109 ((x6).toNatClampNeg))) 109 ((x6).toNatClampNeg) (I 109 ((x5).toNatClampNeg))) J tg))) rfl ?_
    exact h
-- X12_order 
theorem sg_278 {L d : Nat} {xs : Nat → Int32} (I : Nat → Nat → Int32) (J : Nat → Nat → Int64) (tg : Option Nat) (a1 : Int32) (a2 : Int32) {r : Option Value × SS} (h : (∃ (v66 : Int32) (I67 : Nat → Nat → Int32) (J68 : Nat → Nat → Int64) (tg69 : Option Nat), Runs (GW L xs) d 182 (0, [.int a1], [], (zS I J tg)) ((some (.int v66)), (zS I67 J68 tg69)) ∧ (if v66 = 0 then (r = (some (.int (-1)), (zS I67 J68 tg69))) else (∃ (v70 : Int32) (I71 : Nat → Nat → Int32) (J72 : Nat → Nat → Int64) (tg73 : Option Nat), Runs (GW L xs) d 177 (0, [.int (I67 94 6), .int 1, .int 6], [], (zS I67 J68 tg69)) ((some (.int v70)), (zS I71 J72 tg73)) ∧ (if v70 = 0 then (r = (some (.int (-1)), (zS I71 J72 tg73))) else (∃ (v74 : Int32) (I75 : Nat → Nat → Int32) (J76 : Nat → Nat → Int64) (tg77 : Option Nat), Runs (GW L xs) d 177 (0, [.int a2, .int (-1), .int ((I71 94 6) - 1)], [], (zS I71 J72 tg73)) ((some (.int v74)), (zS I75 J76 tg77)) ∧ (if v74 = 0 then (r = (some (.int (-1)), (zS I75 J76 tg77))) else (∃ (I78 : Nat → Nat → Int32) (J79 : Nat → Nat → Int64) (tg80 : Option Nat), Runs (GW L xs) d 274 (0, [.ref 93, vU], [], (zS I75 J76 tg77)) (none, (zS I78 J79 tg80)) ∧ Runs (GW L xs) (d + 1) 278 (51, [.ref 93, .int a1, .int a2, .int (-1), .int 1, vU, vU], [], (zS I78 J79 tg80)) r)))))))) : Runs (GW L xs) (d + 1) 278 (0, [.ref 93, .int a1, .int a2, vU, vU, vU, vU], [], (zS I J tg)) r := by
  refine Runs.sN 1 (c' := (1, [.ref 93, .int a1, .int a2, vU, vU, vU, vU], [.int a1], (zS I J tg))) rfl ?_
  obtain ⟨v66, I67, J68, tg69, c81, h⟩ := h
  refine Runs.cl (cm := 182) (as := [.int a1]) (rest := []) (r1 := ((some (.int v66)), (zS I67 J68 tg69))) rfl (Nat.le_of_ble_eq_true rfl) c81 ?_
  refine Runs.as (c' := (4, [.ref 93, .int a1, .int a2, vU, vU, vU, vU], [.int v66], (zS I67 J68 tg69))) rfl ?_
  by_cases c82 : v66 = 0
  · rw [if_pos c82] at h
    refine Runs.brT (P := v66 = 0) (a := 40) (b := 7) (L := [.ref 93, .int a1, .int a2, vU, vU, vU, vU]) (S := []) (z := (zS I67 J68 tg69)) rfl c82 ?_
    refine Runs.sN 1 (c' := (41, [.ref 93, .int a1, .int a2, vU, vU, vU, vU], [.int (-1)], (zS I67 J68 tg69))) rfl ?_
    subst h
    exact Runs.rt rfl
  · rw [if_neg c82] at h
    refine Runs.brF (P := v66 = 0) (a := 40) (b := 7) (L := [.ref 93, .int a1, .int a2, vU, vU, vU, vU]) (S := []) (z := (zS I67 J68 tg69)) rfl c82 ?_
    refine Runs.sN 6 (c' := (17, [.ref 93, .int a1, .int a2, vU, vU, vU, vU], [.int 6, .int 1, .int (I67 94 6)], (zS I67 J68 tg69))) rfl ?_
    obtain ⟨v70, I71, J72, tg73, c83, h⟩ := h
    refine Runs.cl (cm := 177) (as := [.int (I67 94 6), .int 1, .int 6]) (rest := []) (r1 := ((some (.int v70)), (zS I71 J72 tg73))) rfl (Nat.le_of_ble_eq_true rfl) c83 ?_
    refine Runs.as (c' := (20, [.ref 93, .int a1, .int a2, vU, vU, vU, vU], [.int v70], (zS I71 J72 tg73))) rfl ?_
    by_cases c84 : v70 = 0
    · rw [if_pos c84] at h
      refine Runs.brT (P := v70 = 0) (a := 40) (b := 23) (L := [.ref 93, .int a1, .int a2, vU, vU, vU, vU]) (S := []) (z := (zS I71 J72 tg73)) rfl c84 ?_
      refine Runs.sN 1 (c' := (41, [.ref 93, .int a1, .int a2, vU, vU, vU, vU], [.int (-1)], (zS I71 J72 tg73))) rfl ?_
      subst h
      exact Runs.rt rfl
    · rw [if_neg c84] at h
      refine Runs.brF (P := v70 = 0) (a := 40) (b := 23) (L := [.ref 93, .int a1, .int a2, vU, vU, vU, vU]) (S := []) (z := (zS I71 J72 tg73)) rfl c84 ?_
      refine Runs.sN 8 (c' := (34, [.ref 93, .int a1, .int a2, vU, vU, vU, vU], [.int ((I71 94 6) - 1), .int (-1), .int a2], (zS I71 J72 tg73))) rfl ?_
      obtain ⟨v74, I75, J76, tg77, c85, h⟩ := h
      refine Runs.cl (cm := 177) (as := [.int a2, .int (-1), .int ((I71 94 6) - 1)]) (rest := []) (r1 := ((some (.int v74)), (zS I75 J76 tg77))) rfl (Nat.le_of_ble_eq_true rfl) c85 ?_
      refine Runs.as (c' := (37, [.ref 93, .int a1, .int a2, vU, vU, vU, vU], [.int v74], (zS I75 J76 tg77))) rfl ?_
      by_cases c86 : v74 = 0
      · rw [if_pos c86] at h
        refine Runs.brT (P := v74 = 0) (a := 40) (b := 42) (L := [.ref 93, .int a1, .int a2, vU, vU, vU, vU]) (S := []) (z := (zS I75 J76 tg77)) rfl c86 ?_
        refine Runs.sN 1 (c' := (41, [.ref 93, .int a1, .int a2, vU, vU, vU, vU], [.int (-1)], (zS I75 J76 tg77))) rfl ?_
        subst h
        exact Runs.rt rfl
      · rw [if_neg c86] at h
        refine Runs.brF (P := v74 = 0) (a := 40) (b := 42) (L := [.ref 93, .int a1, .int a2, vU, vU, vU, vU]) (S := []) (z := (zS I75 J76 tg77)) rfl c86 ?_
        refine Runs.sN 1 (c' := (43, [.ref 93, .int a1, .int a2, vU, vU, vU, vU], [.ref 93], (zS I75 J76 tg77))) rfl ?_
        obtain ⟨I78, J79, tg80, c87, h⟩ := h
        refine Runs.cl (cm := 274) (as := [.ref 93]) (rest := []) (r1 := (none, (zS I78 J79 tg80))) rfl (Nat.le_of_ble_eq_true rfl) c87 ?_
        refine Runs.as (c' := (46, [.ref 93, .int a1, .int a2, vU, vU, vU, vU], [], (zS I78 J79 tg80))) rfl ?_
        refine Runs.sN 4 (c' := (51, [.ref 93, .int a1, .int a2, .int (-1), .int 1, vU, vU], [], (zS I78 J79 tg80))) rfl ?_
        exact h
theorem sg_278_51 {L d : Nat} {xs : Nat → Int32} (I : Nat → Nat → Int32) (J : Nat → Nat → Int64) (tg : Option Nat) (x1 : Int32) (x2 : Int32) (x3 : Int32) (x4 : Int32) {r : Option Value × SS} (h : ((if x4 = 0 then ((if x2 = (-1) then (r = (some (.int x3), (zS I J tg))) else (¬ (x2 < 0 ∨ 8 ≤ (x2).toNatClampNeg) ∧ ¬ ((880 + (I 111 ((x2).toNatClampNeg))) < 0 ∨ 1200 ≤ (880 + (I 111 ((x2).toNatClampNeg))).toNatClampNeg) ∧ r = (some (.int (I 94 ((880 + (I 111 ((x2).toNatClampNeg))).toNatClampNeg))), (zS I J tg))))) else (∃ (v1 : Int32) (I2 : Nat → Nat → Int32) (J3 : Nat → Nat → Int64) (tg4 : Option Nat), Runs (GW L xs) d 276 (0, [.ref 93, .int x1, vU, vU, vU, vU], [], (zS I J tg)) ((some (.int v1)), (zS I2 J3 tg4)) ∧ (if v1 ≤ x3 then (∃ (v5 : Int32) (I6 : Nat → Nat → Int32) (J7 : Nat → Nat → Int64) (tg8 : Option Nat), Runs (GW L xs) d 277 (0, [.ref 93, .int (I2 94 6), vU, vU, vU, vU, vU], [], (zS I2 J3 tg4)) ((some (.int v5)), (zS I6 J7 tg8)) ∧ Runs (GW L xs) (d + 1) 278 (51, [.ref 93, .int x1, .int x2, .int x3, .int v5, vU, vU], [], (zS I6 J7 tg8)) r) else (Runs (GW L xs) (d + 1) 278 (75, [.ref 93, .int x1, .int x2, .int v1, .int x4, .int v1, .int 0], [], (zS I2 J3 tg4)) r)))))) : Runs (GW L xs) (d + 1) 278 (51, [.ref 93, .int x1, .int x2, .int x3, .int x4, vU, vU], [], (zS I J tg)) r := by
  refine Runs.sN 1 (c' := (53, [.ref 93, .int x1, .int x2, .int x3, .int x4, vU, vU], [.int x4], (zS I J tg))) rfl ?_
  by_cases c9 : x4 = 0
  · rw [if_pos c9] at h
    refine Runs.brT (P := x4 = 0) (a := 118) (b := 56) (L := [.ref 93, .int x1, .int x2, .int x3, .int x4, vU, vU]) (S := []) (z := (zS I J tg)) rfl c9 ?_
    refine Runs.sN 2 (c' := (120, [.ref 93, .int x1, .int x2, .int x3, .int x4, vU, vU], [.int (-1), .int x2], (zS I J tg))) rfl ?_
    by_cases c10 : x2 = (-1)
    · rw [if_pos c10] at h
      refine Runs.brT (P := x2 = (-1)) (a := 123) (b := 127) (L := [.ref 93, .int x1, .int x2, .int x3, .int x4, vU, vU]) (S := []) (z := (zS I J tg)) rfl c10 ?_
      refine Runs.sN 2 (c' := (142, [.ref 93, .int x1, .int x2, .int x3, .int x4, vU, vU], [.int x3], (zS I J tg))) rfl ?_
      subst h
      exact Runs.rt rfl
    · rw [if_neg c10] at h
      refine Runs.brF (P := x2 = (-1)) (a := 123) (b := 127) (L := [.ref 93, .int x1, .int x2, .int x3, .int x4, vU, vU]) (S := []) (z := (zS I J tg)) rfl c10 ?_
      refine Runs.sN 6 (c' := (139, [.ref 93, .int x1, .int x2, .int x3, .int x4, vU, vU], [.int x2, .ref 111, .int 880, .ref 94], (zS I J tg))) rfl ?_
      obtain ⟨c11, h⟩ := h
      refine Runs.to (c' := (140, [.ref 93, .int x1, .int x2, .int x3, .int x4, vU, vU], [.int (I 111 ((x2).toNatClampNeg)), .int 880, .ref 94], (zS I J tg))) (Runs.ild rfl (show (111 : Nat) < 114 by decide) rfl c11) ?_
      refine Runs.sN 1 (c' := (141, [.ref 93, .int x1, .int x2, .int x3, .int x4, vU, vU], [.int (880 + (I 111 ((x2).toNatClampNeg))), .ref 94], (zS I J tg))) rfl ?_
      obtain ⟨c12, h⟩ := h
      refine Runs.to (c' := (142, [.ref 93, .int x1, .int x2, .int x3, .int x4, vU, vU], [.int (I 94 ((880 + (I 111 ((x2).toNatClampNeg))).toNatClampNeg))], (zS I J tg))) (Runs.ild rfl (show (94 : Nat) < 114 by decide) rfl c12) ?_
      subst h
      exact Runs.rt rfl
  · rw [if_neg c9] at h
    refine Runs.brF (P := x4 = 0) (a := 118) (b := 56) (L := [.ref 93, .int x1, .int x2, .int x3, .int x4, vU, vU]) (S := []) (z := (zS I J tg)) rfl c9 ?_
    refine Runs.sN 2 (c' := (58, [.ref 93, .int x1, .int x2, .int x3, .int x4, vU, vU], [.int x1, .ref 93], (zS I J tg))) rfl ?_
    obtain ⟨v1, I2, J3, tg4, c13, h⟩ := h
    refine Runs.cl (cm := 276) (as := [.ref 93, .int x1]) (rest := []) (r1 := ((some (.int v1)), (zS I2 J3 tg4))) rfl (Nat.le_of_ble_eq_true rfl) c13 ?_
    refine Runs.as (c' := (61, [.ref 93, .int x1, .int x2, .int x3, .int x4, vU, vU], [.int v1], (zS I2 J3 tg4))) rfl ?_
    refine Runs.sN 3 (c' := (66, [.ref 93, .int x1, .int x2, .int x3, .int x4, .int v1, vU], [.int x3, .int v1], (zS I2 J3 tg4))) rfl ?_
    by_cases c14 : v1 ≤ x3
    · rw [if_pos c14] at h
      refine Runs.brT (P := v1 ≤ x3) (a := 102) (b := 69) (L := [.ref 93, .int x1, .int x2, .int x3, .int x4, .int v1, vU]) (S := []) (z := (zS I2 J3 tg4)) rfl c14 ?_
      refine Runs.sN 5 (c' := (110, [.ref 93, .int x1, .int x2, .int x3, .int x4, .int v1, vU], [.int (I2 94 6), .ref 93], (zS I2 J3 tg4))) rfl ?_
      obtain ⟨v5, I6, J7, tg8, c15, h⟩ := h
      refine Runs.cl (cm := 277) (as := [.ref 93, .int (I2 94 6)]) (rest := []) (r1 := ((some (.int v5)), (zS I6 J7 tg8))) rfl (Nat.le_of_ble_eq_true rfl) c15 ?_
      refine Runs.as (c' := (113, [.ref 93, .int x1, .int x2, .int x3, .int x4, .int v1, vU], [.int v5], (zS I6 J7 tg8))) rfl ?_
      refine Runs.sN 2 (c' := (51, [.ref 93, .int x1, .int x2, .int x3, .int v5, .int v1, vU], [], (zS I6 J7 tg8))) rfl ?_
      exact Runs.weak (L := [.ref 93, .int x1, .int x2, .int x3, .int v5, vU, vU]) (Lle.k (Lle.k (Lle.k (Lle.k (Lle.k (Lle.u (Lle.k Lle.n))))))) h
    · rw [if_neg c14] at h
      refine Runs.brF (P := v1 ≤ x3) (a := 102) (b := 69) (L := [.ref 93, .int x1, .int x2, .int x3, .int x4, .int v1, vU]) (S := []) (z := (zS I2 J3 tg4)) rfl c14 ?_
      refine Runs.sN 4 (c' := (75, [.ref 93, .int x1, .int x2, .int v1, .int x4, .int v1, .int 0], [], (zS I2 J3 tg4))) rfl ?_
      exact h
theorem sg_278_75 {L d : Nat} {xs : Nat → Int32} (I : Nat → Nat → Int32) (J : Nat → Nat → Int64) (tg : Option Nat) (x1 : Int32) (x2 : Int32) (x3 : Int32) (x4 : Int32) (x5 : Int32) (x6 : Int32) {r : Option Value × SS} (h : ((if 8 ≤ x6 then (∃ (v1 : Int32) (I2 : Nat → Nat → Int32) (J3 : Nat → Nat → Int64) (tg4 : Option Nat), Runs (GW L xs) d 277 (0, [.ref 93, .int (I 94 6), vU, vU, vU, vU, vU], [], (zS I J tg)) ((some (.int v1)), (zS I2 J3 tg4)) ∧ Runs (GW L xs) (d + 1) 278 (51, [.ref 93, .int x1, .int x2, .int x3, .int v1, vU, vU], [], (zS I2 J3 tg4)) r) else (¬ (x6 < 0 ∨ 8 ≤ (x6).toNatClampNeg) ∧ ¬ (x6 < 0 ∨ 8 ≤ (x6).toNatClampNeg) ∧ Runs (GW L xs) (d + 1) 278 (75, [.ref 93, .int x1, .int x2, .int x3, .int x4, .int x5, .int (x6 + 1)], [], (zS (up2 I 111 ((x6).toNatClampNeg) (I 109 ((x6).toNatClampNeg))) J tg)) r)))) : Runs (GW L xs) (d + 1) 278 (75, [.ref 93, .int x1, .int x2, .int x3, .int x4, .int x5, .int x6], [], (zS I J tg)) r := by
  refine Runs.sN 2 (c' := (79, [.ref 93, .int x1, .int x2, .int x3, .int x4, .int x5, .int x6], [.int 8, .int x6], (zS I J tg))) rfl ?_
  by_cases c5 : 8 ≤ x6
  · rw [if_pos c5] at h
    refine Runs.brT (P := 8 ≤ x6) (a := 102) (b := 82) (L := [.ref 93, .int x1, .int x2, .int x3, .int x4, .int x5, .int x6]) (S := []) (z := (zS I J tg)) rfl c5 ?_
    refine Runs.sN 5 (c' := (110, [.ref 93, .int x1, .int x2, .int x3, .int x4, .int x5, .int x6], [.int (I 94 6), .ref 93], (zS I J tg))) rfl ?_
    obtain ⟨v1, I2, J3, tg4, c6, h⟩ := h
    refine Runs.cl (cm := 277) (as := [.ref 93, .int (I 94 6)]) (rest := []) (r1 := ((some (.int v1)), (zS I2 J3 tg4))) rfl (Nat.le_of_ble_eq_true rfl) c6 ?_
    refine Runs.as (c' := (113, [.ref 93, .int x1, .int x2, .int x3, .int x4, .int x5, .int x6], [.int v1], (zS I2 J3 tg4))) rfl ?_
    refine Runs.sN 2 (c' := (51, [.ref 93, .int x1, .int x2, .int x3, .int v1, .int x5, .int x6], [], (zS I2 J3 tg4))) rfl ?_
    exact Runs.weak (L := [.ref 93, .int x1, .int x2, .int x3, .int v1, vU, vU]) (Lle.k (Lle.k (Lle.k (Lle.k (Lle.k (Lle.u (Lle.u Lle.n))))))) h
  · rw [if_neg c5] at h
    refine Runs.brF (P := 8 ≤ x6) (a := 102) (b := 82) (L := [.ref 93, .int x1, .int x2, .int x3, .int x4, .int x5, .int x6]) (S := []) (z := (zS I J tg)) rfl c5 ?_
    refine Runs.sN 6 (c' := (94, [.ref 93, .int x1, .int x2, .int x3, .int x4, .int x5, .int x6], [.int x6, .ref 109, .int x6, .ref 111], (zS I J tg))) rfl ?_
    obtain ⟨c7, h⟩ := h
    refine Runs.to (c' := (95, [.ref 93, .int x1, .int x2, .int x3, .int x4, .int x5, .int x6], [.int (I 109 ((x6).toNatClampNeg)), .int x6, .ref 111], (zS I J tg))) (Runs.ild rfl (show (109 : Nat) < 114 by decide) rfl c7) ?_
    obtain ⟨c8, h⟩ := h
    refine Runs.to (c' := (96, [.ref 93, .int x1, .int x2, .int x3, .int x4, .int x5, .int x6], [], (zS (up2 I 111 ((x6).toNatClampNeg) (I 109 ((x6).toNatClampNeg))) J tg))) (Runs.ist rfl (show (111 : Nat) < 114 by decide) rfl c8) ?_
    refine Runs.sN 2 (c' := (75, [.ref 93, .int x1, .int x2, .int x3, .int x4, .int x5, .int (x6 + 1)], [], (zS (up2 I 111 ((x6).toNatClampNeg) (I 109 ((x6).toNatClampNeg))) J tg))) rfl ?_
    exact h
-- X12_worn 
theorem sg_279 {L d : Nat} {xs : Nat → Int32} (I : Nat → Nat → Int32) (J : Nat → Nat → Int64) (tg : Option Nat) (a1 : Int32) (a2 : Int32) (a3 : Int32) (a4 : Int32) {r : Option Value × SS} (h : (∃ (v98 : Int32) (I99 : Nat → Nat → Int32) (J100 : Nat → Nat → Int64) (tg101 : Option Nat), Runs (GW L xs) d 179 (0, [.ref 93, .int a1], [], (zS I J tg)) ((some (.int v98)), (zS I99 J100 tg101)) ∧ (if v98 = 0 then (r = (some (.int (-1)), (zS I99 J100 tg101))) else (∃ (v102 : Int32) (I103 : Nat → Nat → Int32) (J104 : Nat → Nat → Int64) (tg105 : Option Nat), Runs (GW L xs) d 182 (0, [.int a2], [], (zS I99 J100 tg101)) ((some (.int v102)), (zS I103 J104 tg105)) ∧ (if v102 = 0 then (r = (some (.int (-1)), (zS I103 J104 tg105))) else (∃ (v106 : Int32) (I107 : Nat → Nat → Int32) (J108 : Nat → Nat → Int64) (tg109 : Option Nat), Runs (GW L xs) d 184 (0, [.ref 93, .int a1, .int 0], [], (zS I103 J104 tg105)) ((some (.int v106)), (zS I107 J108 tg109)) ∧ ∃ (v110 : Int32) (I111 : Nat → Nat → Int32) (J112 : Nat → Nat → Int64) (tg113 : Option Nat), Runs (GW L xs) d 177 (0, [.int a3, .int 0, .int v106], [], (zS I107 J108 tg109)) ((some (.int v110)), (zS I111 J112 tg113)) ∧ (if v110 = 0 then (r = (some (.int (-1)), (zS I111 J112 tg113))) else (∃ (v114 : Int32) (I115 : Nat → Nat → Int32) (J116 : Nat → Nat → Int64) (tg117 : Option Nat), Runs (GW L xs) d 177 (0, [.int a4, .int 0, .int 1], [], (zS I111 J112 tg113)) ((some (.int v114)), (zS I115 J116 tg117)) ∧ (if v114 = 0 then (r = (some (.int (-1)), (zS I115 J116 tg117))) else (Runs (GW L xs) (d + 1) 279 (50, [.ref 93, .int a1, .int a2, .int a3, .int a4, .int (-1), .int 0, .int 0, vU], [], (zS I115 J116 tg117)) r)))))))))) : Runs (GW L xs) (d + 1) 279 (0, [.ref 93, .int a1, .int a2, .int a3, .int a4, vU, vU, vU, vU], [], (zS I J tg)) r := by
  refine Runs.sN 2 (c' := (2, [.ref 93, .int a1, .int a2, .int a3, .int a4, vU, vU, vU, vU], [.int a1, .ref 93], (zS I J tg))) rfl ?_
  obtain ⟨v98, I99, J100, tg101, c118, h⟩ := h
  refine Runs.cl (cm := 179) (as := [.ref 93, .int a1]) (rest := []) (r1 := ((some (.int v98)), (zS I99 J100 tg101))) rfl (Nat.le_of_ble_eq_true rfl) c118 ?_
  refine Runs.as (c' := (5, [.ref 93, .int a1, .int a2, .int a3, .int a4, vU, vU, vU, vU], [.int v98], (zS I99 J100 tg101))) rfl ?_
  by_cases c119 : v98 = 0
  · rw [if_pos c119] at h
    refine Runs.brT (P := v98 = 0) (a := 39) (b := 8) (L := [.ref 93, .int a1, .int a2, .int a3, .int a4, vU, vU, vU, vU]) (S := []) (z := (zS I99 J100 tg101)) rfl c119 ?_
    refine Runs.sN 1 (c' := (40, [.ref 93, .int a1, .int a2, .int a3, .int a4, vU, vU, vU, vU], [.int (-1)], (zS I99 J100 tg101))) rfl ?_
    subst h
    exact Runs.rt rfl
  · rw [if_neg c119] at h
    refine Runs.brF (P := v98 = 0) (a := 39) (b := 8) (L := [.ref 93, .int a1, .int a2, .int a3, .int a4, vU, vU, vU, vU]) (S := []) (z := (zS I99 J100 tg101)) rfl c119 ?_
    refine Runs.sN 1 (c' := (9, [.ref 93, .int a1, .int a2, .int a3, .int a4, vU, vU, vU, vU], [.int a2], (zS I99 J100 tg101))) rfl ?_
    obtain ⟨v102, I103, J104, tg105, c120, h⟩ := h
    refine Runs.cl (cm := 182) (as := [.int a2]) (rest := []) (r1 := ((some (.int v102)), (zS I103 J104 tg105))) rfl (Nat.le_of_ble_eq_true rfl) c120 ?_
    refine Runs.as (c' := (12, [.ref 93, .int a1, .int a2, .int a3, .int a4, vU, vU, vU, vU], [.int v102], (zS I103 J104 tg105))) rfl ?_
    by_cases c121 : v102 = 0
    · rw [if_pos c121] at h
      refine Runs.brT (P := v102 = 0) (a := 39) (b := 15) (L := [.ref 93, .int a1, .int a2, .int a3, .int a4, vU, vU, vU, vU]) (S := []) (z := (zS I103 J104 tg105)) rfl c121 ?_
      refine Runs.sN 1 (c' := (40, [.ref 93, .int a1, .int a2, .int a3, .int a4, vU, vU, vU, vU], [.int (-1)], (zS I103 J104 tg105))) rfl ?_
      subst h
      exact Runs.rt rfl
    · rw [if_neg c121] at h
      refine Runs.brF (P := v102 = 0) (a := 39) (b := 15) (L := [.ref 93, .int a1, .int a2, .int a3, .int a4, vU, vU, vU, vU]) (S := []) (z := (zS I103 J104 tg105)) rfl c121 ?_
      refine Runs.sN 5 (c' := (20, [.ref 93, .int a1, .int a2, .int a3, .int a4, vU, vU, vU, vU], [.int 0, .int a1, .ref 93, .int 0, .int a3], (zS I103 J104 tg105))) rfl ?_
      obtain ⟨v106, I107, J108, tg109, c122, h⟩ := h
      refine Runs.cl (cm := 184) (as := [.ref 93, .int a1, .int 0]) (rest := [.int 0, .int a3]) (r1 := ((some (.int v106)), (zS I107 J108 tg109))) rfl (Nat.le_of_ble_eq_true rfl) c122 ?_
      refine Runs.as (c' := (23, [.ref 93, .int a1, .int a2, .int a3, .int a4, vU, vU, vU, vU], [.int v106, .int 0, .int a3], (zS I107 J108 tg109))) rfl ?_
      obtain ⟨v110, I111, J112, tg113, c123, h⟩ := h
      refine Runs.cl (cm := 177) (as := [.int a3, .int 0, .int v106]) (rest := []) (r1 := ((some (.int v110)), (zS I111 J112 tg113))) rfl (Nat.le_of_ble_eq_true rfl) c123 ?_
      refine Runs.as (c' := (26, [.ref 93, .int a1, .int a2, .int a3, .int a4, vU, vU, vU, vU], [.int v110], (zS I111 J112 tg113))) rfl ?_
      by_cases c124 : v110 = 0
      · rw [if_pos c124] at h
        refine Runs.brT (P := v110 = 0) (a := 39) (b := 29) (L := [.ref 93, .int a1, .int a2, .int a3, .int a4, vU, vU, vU, vU]) (S := []) (z := (zS I111 J112 tg113)) rfl c124 ?_
        refine Runs.sN 1 (c' := (40, [.ref 93, .int a1, .int a2, .int a3, .int a4, vU, vU, vU, vU], [.int (-1)], (zS I111 J112 tg113))) rfl ?_
        subst h
        exact Runs.rt rfl
      · rw [if_neg c124] at h
        refine Runs.brF (P := v110 = 0) (a := 39) (b := 29) (L := [.ref 93, .int a1, .int a2, .int a3, .int a4, vU, vU, vU, vU]) (S := []) (z := (zS I111 J112 tg113)) rfl c124 ?_
        refine Runs.sN 3 (c' := (33, [.ref 93, .int a1, .int a2, .int a3, .int a4, vU, vU, vU, vU], [.int 1, .int 0, .int a4], (zS I111 J112 tg113))) rfl ?_
        obtain ⟨v114, I115, J116, tg117, c125, h⟩ := h
        refine Runs.cl (cm := 177) (as := [.int a4, .int 0, .int 1]) (rest := []) (r1 := ((some (.int v114)), (zS I115 J116 tg117))) rfl (Nat.le_of_ble_eq_true rfl) c125 ?_
        refine Runs.as (c' := (36, [.ref 93, .int a1, .int a2, .int a3, .int a4, vU, vU, vU, vU], [.int v114], (zS I115 J116 tg117))) rfl ?_
        by_cases c126 : v114 = 0
        · rw [if_pos c126] at h
          refine Runs.brT (P := v114 = 0) (a := 39) (b := 41) (L := [.ref 93, .int a1, .int a2, .int a3, .int a4, vU, vU, vU, vU]) (S := []) (z := (zS I115 J116 tg117)) rfl c126 ?_
          refine Runs.sN 1 (c' := (40, [.ref 93, .int a1, .int a2, .int a3, .int a4, vU, vU, vU, vU], [.int (-1)], (zS I115 J116 tg117))) rfl ?_
          subst h
          exact Runs.rt rfl
        · rw [if_neg c126] at h
          refine Runs.brF (P := v114 = 0) (a := 39) (b := 41) (L := [.ref 93, .int a1, .int a2, .int a3, .int a4, vU, vU, vU, vU]) (S := []) (z := (zS I115 J116 tg117)) rfl c126 ?_
          refine Runs.sN 6 (c' := (50, [.ref 93, .int a1, .int a2, .int a3, .int a4, .int (-1), .int 0, .int 0, vU], [], (zS I115 J116 tg117))) rfl ?_
          exact h
theorem sg_279_50 {L d : Nat} {xs : Nat → Int32} (I : Nat → Nat → Int32) (J : Nat → Nat → Int64) (tg : Option Nat) (x1 : Int32) (x2 : Int32) (x3 : Int32) (x4 : Int32) (x5 : Int32) (x6 : Int32) (x7 : Int32) {r : Option Value × SS} (h : (∃ (v1 : Int32) (I2 : Nat → Nat → Int32) (J3 : Nat → Nat → Int64) (tg4 : Option Nat), Runs (GW L xs) d 184 (0, [.ref 93, .int x1, .int 0], [], (zS I J tg)) ((some (.int v1)), (zS I2 J3 tg4)) ∧ (if (1 <<< (v1 &&& 31)) ≤ x7 then ((if x4 = 0 then (r = (some (.int x6), (zS I2 J3 tg4))) else (r = (some (.int x5), (zS I2 J3 tg4))))) else (∃ (v5 : Int32) (I6 : Nat → Nat → Int32) (J7 : Nat → Nat → Int64) (tg8 : Option Nat), Runs (GW L xs) d 185 (0, [.int x7, vU, vU], [], (zS I2 J3 tg4)) ((some (.int v5)), (zS I6 J7 tg8)) ∧ (if v5 = x3 then (∃ (I9 : Nat → Nat → Int32) (J10 : Nat → Nat → Int64) (tg11 : Option Nat), Runs (GW L xs) d 257 (0, [.ref 93, .int x1, vU], [], (zS I6 J7 tg8)) (none, (zS I9 J10 tg11)) ∧ Runs (GW L xs) (d + 1) 279 (83, [.ref 93, .int x1, .int x2, .int x3, .int x4, .int x5, .int x6, .int x7, .int 0], [], (zS I9 J10 tg11)) r) else (Runs (GW L xs) (d + 1) 279 (50, [.ref 93, .int x1, .int x2, .int x3, .int x4, .int x5, .int x6, .int (x7 + 1), vU], [], (zS I6 J7 tg8)) r)))))) : Runs (GW L xs) (d + 1) 279 (50, [.ref 93, .int x1, .int x2, .int x3, .int x4, .int x5, .int x6, .int x7, vU], [], (zS I J tg)) r := by
  refine Runs.sN 5 (c' := (56, [.ref 93, .int x1, .int x2, .int x3, .int x4, .int x5, .int x6, .int x7, vU], [.int 0, .int x1, .ref 93, .int 1, .int x7], (zS I J tg))) rfl ?_
  obtain ⟨v1, I2, J3, tg4, c12, h⟩ := h
  refine Runs.cl (cm := 184) (as := [.ref 93, .int x1, .int 0]) (rest := [.int 1, .int x7]) (r1 := ((some (.int v1)), (zS I2 J3 tg4))) rfl (Nat.le_of_ble_eq_true rfl) c12 ?_
  refine Runs.as (c' := (59, [.ref 93, .int x1, .int x2, .int x3, .int x4, .int x5, .int x6, .int x7, vU], [.int v1, .int 1, .int x7], (zS I2 J3 tg4))) rfl ?_
  refine Runs.sN 1 (c' := (60, [.ref 93, .int x1, .int x2, .int x3, .int x4, .int x5, .int x6, .int x7, vU], [.int (1 <<< (v1 &&& 31)), .int x7], (zS I2 J3 tg4))) rfl ?_
  by_cases c13 : (1 <<< (v1 &&& 31)) ≤ x7
  · rw [if_pos c13] at h
    refine Runs.brT (P := (1 <<< (v1 &&& 31)) ≤ x7) (a := 164) (b := 63) (L := [.ref 93, .int x1, .int x2, .int x3, .int x4, .int x5, .int x6, .int x7, vU]) (S := []) (z := (zS I2 J3 tg4)) rfl c13 ?_
    refine Runs.sN 1 (c' := (166, [.ref 93, .int x1, .int x2, .int x3, .int x4, .int x5, .int x6, .int x7, vU], [.int x4], (zS I2 J3 tg4))) rfl ?_
    by_cases c14 : x4 = 0
    · rw [if_pos c14] at h
      refine Runs.brT (P := x4 = 0) (a := 169) (b := 174) (L := [.ref 93, .int x1, .int x2, .int x3, .int x4, .int x5, .int x6, .int x7, vU]) (S := []) (z := (zS I2 J3 tg4)) rfl c14 ?_
      refine Runs.sN 2 (c' := (176, [.ref 93, .int x1, .int x2, .int x3, .int x4, .int x5, .int x6, .int x7, vU], [.int x6], (zS I2 J3 tg4))) rfl ?_
      subst h
      exact Runs.rt rfl
    · rw [if_neg c14] at h
      refine Runs.brF (P := x4 = 0) (a := 169) (b := 174) (L := [.ref 93, .int x1, .int x2, .int x3, .int x4, .int x5, .int x6, .int x7, vU]) (S := []) (z := (zS I2 J3 tg4)) rfl c14 ?_
      refine Runs.sN 1 (c' := (176, [.ref 93, .int x1, .int x2, .int x3, .int x4, .int x5, .int x6, .int x7, vU], [.int x5], (zS I2 J3 tg4))) rfl ?_
      subst h
      exact Runs.rt rfl
  · rw [if_neg c13] at h
    refine Runs.brF (P := (1 <<< (v1 &&& 31)) ≤ x7) (a := 164) (b := 63) (L := [.ref 93, .int x1, .int x2, .int x3, .int x4, .int x5, .int x6, .int x7, vU]) (S := []) (z := (zS I2 J3 tg4)) rfl c13 ?_
    refine Runs.sN 1 (c' := (65, [.ref 93, .int x1, .int x2, .int x3, .int x4, .int x5, .int x6, .int x7, vU], [.int x7], (zS I2 J3 tg4))) rfl ?_
    obtain ⟨v5, I6, J7, tg8, c15, h⟩ := h
    refine Runs.cl (cm := 185) (as := [.int x7]) (rest := []) (r1 := ((some (.int v5)), (zS I6 J7 tg8))) rfl (Nat.le_of_ble_eq_true rfl) c15 ?_
    refine Runs.as (c' := (68, [.ref 93, .int x1, .int x2, .int x3, .int x4, .int x5, .int x6, .int x7, vU], [.int v5], (zS I6 J7 tg8))) rfl ?_
    refine Runs.sN 1 (c' := (69, [.ref 93, .int x1, .int x2, .int x3, .int x4, .int x5, .int x6, .int x7, vU], [.int x3, .int v5], (zS I6 J7 tg8))) rfl ?_
    by_cases c16 : v5 = x3
    · rw [if_pos c16] at h
      refine Runs.brT (P := v5 = x3) (a := 75) (b := 72) (L := [.ref 93, .int x1, .int x2, .int x3, .int x4, .int x5, .int x6, .int x7, vU]) (S := []) (z := (zS I6 J7 tg8)) rfl c16 ?_
      refine Runs.sN 2 (c' := (77, [.ref 93, .int x1, .int x2, .int x3, .int x4, .int x5, .int x6, .int x7, vU], [.int x1, .ref 93], (zS I6 J7 tg8))) rfl ?_
      obtain ⟨I9, J10, tg11, c17, h⟩ := h
      refine Runs.cl (cm := 257) (as := [.ref 93, .int x1]) (rest := []) (r1 := (none, (zS I9 J10 tg11))) rfl (Nat.le_of_ble_eq_true rfl) c17 ?_
      refine Runs.as (c' := (80, [.ref 93, .int x1, .int x2, .int x3, .int x4, .int x5, .int x6, .int x7, vU], [], (zS I9 J10 tg11))) rfl ?_
      refine Runs.sN 2 (c' := (83, [.ref 93, .int x1, .int x2, .int x3, .int x4, .int x5, .int x6, .int x7, .int 0], [], (zS I9 J10 tg11))) rfl ?_
      exact h
    · rw [if_neg c16] at h
      refine Runs.brF (P := v5 = x3) (a := 75) (b := 72) (L := [.ref 93, .int x1, .int x2, .int x3, .int x4, .int x5, .int x6, .int x7, vU]) (S := []) (z := (zS I6 J7 tg8)) rfl c16 ?_
      refine Runs.sN 3 (c' := (50, [.ref 93, .int x1, .int x2, .int x3, .int x4, .int x5, .int x6, .int (x7 + 1), vU], [], (zS I6 J7 tg8))) rfl ?_
      exact h
theorem sg_279_83 {L d : Nat} {xs : Nat → Int32} (I : Nat → Nat → Int32) (J : Nat → Nat → Int64) (tg : Option Nat) (x1 : Int32) (x2 : Int32) (x3 : Int32) (x4 : Int32) (x5 : Int32) (x6 : Int32) (x7 : Int32) (x8 : Int32) {r : Option Value × SS} (h : (∃ (v1 : Int32) (I2 : Nat → Nat → Int32) (J3 : Nat → Nat → Int64) (tg4 : Option Nat), Runs (GW L xs) d 184 (0, [.ref 93, .int x1, .int 0], [], (zS I J tg)) ((some (.int v1)), (zS I2 J3 tg4)) ∧ (if v1 ≤ x8 then (∃ (v5 : Int32) (I6 : Nat → Nat → Int32) (J7 : Nat → Nat → Int64) (tg8 : Option Nat), Runs (GW L xs) d 253 (0, [.ref 93, .int 24, .int x1, .int x2, vU, vU], [], (zS I2 J3 tg4)) ((some (.int v5)), (zS I6 J7 tg8)) ∧ (if x5 < 0 then (Runs (GW L xs) (d + 1) 279 (50, [.ref 93, .int x1, .int x2, .int x3, .int x4, .int x7, .int v5, .int (x7 + 1), vU], [], (zS I6 J7 tg8)) r) else ((if v5 < x6 then (Runs (GW L xs) (d + 1) 279 (50, [.ref 93, .int x1, .int x2, .int x3, .int x4, .int x7, .int v5, .int (x7 + 1), vU], [], (zS I6 J7 tg8)) r) else (Runs (GW L xs) (d + 1) 279 (50, [.ref 93, .int x1, .int x2, .int x3, .int x4, .int x5, .int x6, .int (x7 + 1), vU], [], (zS I6 J7 tg8)) r))))) else ((if ((x7 >>> (x8 &&& 31)) &&& 1) = 0 then (∃ (v9 : Int32) (I10 : Nat → Nat → Int32) (J11 : Nat → Nat → Int64) (tg12 : Option Nat), Runs (GW L xs) d 184 (0, [.ref 93, .int x1, .int (4 + x8)], [], (zS I2 J3 tg4)) ((some (.int v9)), (zS I10 J11 tg12)) ∧ ∃ (I13 : Nat → Nat → Int32) (J14 : Nat → Nat → Int64) (tg15 : Option Nat), Runs (GW L xs) d 189 (0, [.ref 93, .int 24, .int v9, vU], [], (zS I10 J11 tg12)) (none, (zS I13 J14 tg15)) ∧ Runs (GW L xs) (d + 1) 279 (83, [.ref 93, .int x1, .int x2, .int x3, .int x4, .int x5, .int x6, .int x7, .int (x8 + 1)], [], (zS I13 J14 tg15)) r) else (Runs (GW L xs) (d + 1) 279 (83, [.ref 93, .int x1, .int x2, .int x3, .int x4, .int x5, .int x6, .int x7, .int (x8 + 1)], [], (zS I2 J3 tg4)) r)))))) : Runs (GW L xs) (d + 1) 279 (83, [.ref 93, .int x1, .int x2, .int x3, .int x4, .int x5, .int x6, .int x7, .int x8], [], (zS I J tg)) r := by
  refine Runs.sN 4 (c' := (88, [.ref 93, .int x1, .int x2, .int x3, .int x4, .int x5, .int x6, .int x7, .int x8], [.int 0, .int x1, .ref 93, .int x8], (zS I J tg))) rfl ?_
  obtain ⟨v1, I2, J3, tg4, c16, h⟩ := h
  refine Runs.cl (cm := 184) (as := [.ref 93, .int x1, .int 0]) (rest := [.int x8]) (r1 := ((some (.int v1)), (zS I2 J3 tg4))) rfl (Nat.le_of_ble_eq_true rfl) c16 ?_
  refine Runs.as (c' := (91, [.ref 93, .int x1, .int x2, .int x3, .int x4, .int x5, .int x6, .int x7, .int x8], [.int v1, .int x8], (zS I2 J3 tg4))) rfl ?_
  by_cases c17 : v1 ≤ x8
  · rw [if_pos c17] at h
    refine Runs.brT (P := v1 ≤ x8) (a := 125) (b := 94) (L := [.ref 93, .int x1, .int x2, .int x3, .int x4, .int x5, .int x6, .int x7, .int x8]) (S := []) (z := (zS I2 J3 tg4)) rfl c17 ?_
    refine Runs.sN 4 (c' := (130, [.ref 93, .int x1, .int x2, .int x3, .int x4, .int x5, .int x6, .int x7, .int x8], [.int x2, .int x1, .int 24, .ref 93], (zS I2 J3 tg4))) rfl ?_
    obtain ⟨v5, I6, J7, tg8, c18, h⟩ := h
    refine Runs.cl (cm := 253) (as := [.ref 93, .int 24, .int x1, .int x2]) (rest := []) (r1 := ((some (.int v5)), (zS I6 J7 tg8))) rfl (Nat.le_of_ble_eq_true rfl) c18 ?_
    refine Runs.as (c' := (133, [.ref 93, .int x1, .int x2, .int x3, .int x4, .int x5, .int x6, .int x7, .int x8], [.int v5], (zS I6 J7 tg8))) rfl ?_
    refine Runs.sN 2 (c' := (137, [.ref 93, .int x1, .int x2, .int x3, .int x4, .int x5, .int x6, .int x7, .int v5], [.int x5], (zS I6 J7 tg8))) rfl ?_
    by_cases c19 : x5 < 0
    · rw [if_pos c19] at h
      refine Runs.brT (P := x5 < 0) (a := 150) (b := 140) (L := [.ref 93, .int x1, .int x2, .int x3, .int x4, .int x5, .int x6, .int x7, .int v5]) (S := []) (z := (zS I6 J7 tg8)) rfl c19 ?_
      refine Runs.sN 6 (c' := (50, [.ref 93, .int x1, .int x2, .int x3, .int x4, .int x7, .int v5, .int (x7 + 1), .int v5], [], (zS I6 J7 tg8))) rfl ?_
      exact Runs.weak (L := [.ref 93, .int x1, .int x2, .int x3, .int x4, .int x7, .int v5, .int (x7 + 1), vU]) (Lle.k (Lle.k (Lle.k (Lle.k (Lle.k (Lle.k (Lle.k (Lle.k (Lle.u Lle.n))))))))) h
    · rw [if_neg c19] at h
      refine Runs.brF (P := x5 < 0) (a := 150) (b := 140) (L := [.ref 93, .int x1, .int x2, .int x3, .int x4, .int x5, .int x6, .int x7, .int v5]) (S := []) (z := (zS I6 J7 tg8)) rfl c19 ?_
      refine Runs.sN 2 (c' := (144, [.ref 93, .int x1, .int x2, .int x3, .int x4, .int x5, .int x6, .int x7, .int v5], [.int x6, .int v5], (zS I6 J7 tg8))) rfl ?_
      by_cases c20 : v5 < x6
      · rw [if_pos c20] at h
        refine Runs.brT (P := v5 < x6) (a := 150) (b := 147) (L := [.ref 93, .int x1, .int x2, .int x3, .int x4, .int x5, .int x6, .int x7, .int v5]) (S := []) (z := (zS I6 J7 tg8)) rfl c20 ?_
        refine Runs.sN 6 (c' := (50, [.ref 93, .int x1, .int x2, .int x3, .int x4, .int x7, .int v5, .int (x7 + 1), .int v5], [], (zS I6 J7 tg8))) rfl ?_
        exact Runs.weak (L := [.ref 93, .int x1, .int x2, .int x3, .int x4, .int x7, .int v5, .int (x7 + 1), vU]) (Lle.k (Lle.k (Lle.k (Lle.k (Lle.k (Lle.k (Lle.k (Lle.k (Lle.u Lle.n))))))))) h
      · rw [if_neg c20] at h
        refine Runs.brF (P := v5 < x6) (a := 150) (b := 147) (L := [.ref 93, .int x1, .int x2, .int x3, .int x4, .int x5, .int x6, .int x7, .int v5]) (S := []) (z := (zS I6 J7 tg8)) rfl c20 ?_
        refine Runs.sN 3 (c' := (50, [.ref 93, .int x1, .int x2, .int x3, .int x4, .int x5, .int x6, .int (x7 + 1), .int v5], [], (zS I6 J7 tg8))) rfl ?_
        exact Runs.weak (L := [.ref 93, .int x1, .int x2, .int x3, .int x4, .int x5, .int x6, .int (x7 + 1), vU]) (Lle.k (Lle.k (Lle.k (Lle.k (Lle.k (Lle.k (Lle.k (Lle.k (Lle.u Lle.n))))))))) h
  · rw [if_neg c17] at h
    refine Runs.brF (P := v1 ≤ x8) (a := 125) (b := 94) (L := [.ref 93, .int x1, .int x2, .int x3, .int x4, .int x5, .int x6, .int x7, .int x8]) (S := []) (z := (zS I2 J3 tg4)) rfl c17 ?_
    refine Runs.sN 5 (c' := (101, [.ref 93, .int x1, .int x2, .int x3, .int x4, .int x5, .int x6, .int x7, .int x8], [.int ((x7 >>> (x8 &&& 31)) &&& 1)], (zS I2 J3 tg4))) rfl ?_
    by_cases c21 : ((x7 >>> (x8 &&& 31)) &&& 1) = 0
    · rw [if_pos c21] at h
      refine Runs.brT (P := ((x7 >>> (x8 &&& 31)) &&& 1) = 0) (a := 104) (b := 119) (L := [.ref 93, .int x1, .int x2, .int x3, .int x4, .int x5, .int x6, .int x7, .int x8]) (S := []) (z := (zS I2 J3 tg4)) rfl c21 ?_
      refine Runs.sN 7 (c' := (113, [.ref 93, .int x1, .int x2, .int x3, .int x4, .int x5, .int x6, .int x7, .int x8], [.int (4 + x8), .int x1, .ref 93, .int 24, .ref 93], (zS I2 J3 tg4))) rfl ?_
      obtain ⟨v9, I10, J11, tg12, c22, h⟩ := h
      refine Runs.cl (cm := 184) (as := [.ref 93, .int x1, .int (4 + x8)]) (rest := [.int 24, .ref 93]) (r1 := ((some (.int v9)), (zS I10 J11 tg12))) rfl (Nat.le_of_ble_eq_true rfl) c22 ?_
      refine Runs.as (c' := (116, [.ref 93, .int x1, .int x2, .int x3, .int x4, .int x5, .int x6, .int x7, .int x8], [.int v9, .int 24, .ref 93], (zS I10 J11 tg12))) rfl ?_
      obtain ⟨I13, J14, tg15, c23, h⟩ := h
      refine Runs.cl (cm := 189) (as := [.ref 93, .int 24, .int v9]) (rest := []) (r1 := (none, (zS I13 J14 tg15))) rfl (Nat.le_of_ble_eq_true rfl) c23 ?_
      refine Runs.as (c' := (119, [.ref 93, .int x1, .int x2, .int x3, .int x4, .int x5, .int x6, .int x7, .int x8], [], (zS I13 J14 tg15))) rfl ?_
      refine Runs.sN 2 (c' := (83, [.ref 93, .int x1, .int x2, .int x3, .int x4, .int x5, .int x6, .int x7, .int (x8 + 1)], [], (zS I13 J14 tg15))) rfl ?_
      exact h
    · rw [if_neg c21] at h
      refine Runs.brF (P := ((x7 >>> (x8 &&& 31)) &&& 1) = 0) (a := 104) (b := 119) (L := [.ref 93, .int x1, .int x2, .int x3, .int x4, .int x5, .int x6, .int x7, .int x8]) (S := []) (z := (zS I2 J3 tg4)) rfl c21 ?_
      refine Runs.sN 2 (c' := (83, [.ref 93, .int x1, .int x2, .int x3, .int x4, .int x5, .int x6, .int x7, .int (x8 + 1)], [], (zS I2 J3 tg4))) rfl ?_
      exact h
-- X12_taught 
theorem sg_280 {L d : Nat} {xs : Nat → Int32} (I : Nat → Nat → Int32) (J : Nat → Nat → Int64) (tg : Option Nat) (a1 : Int32) {r : Option Value × SS} (h : ((if (a1 + (I 94 14)) ≤ 1000 then (r = (some (.int (a1 + (I 94 14))), (zS I J tg))) else (r = (some (.int 1000), (zS I J tg)))))) : Runs (GW L xs) d 280 (0, [.ref 93, .int a1], [], (zS I J tg)) r := by
  refine Runs.sN 7 (c' := (12, [.ref 93, .int a1], [.int 1000, .int (a1 + (I 94 14))], (zS I J tg))) rfl ?_
  by_cases c1 : (a1 + (I 94 14)) ≤ 1000
  · rw [if_pos c1] at h
    refine Runs.brT (P := (a1 + (I 94 14)) ≤ 1000) (a := 21) (b := 15) (L := [.ref 93, .int a1]) (S := []) (z := (zS I J tg)) rfl c1 ?_
    refine Runs.sN 6 (c' := (30, [.ref 93, .int a1], [.int (a1 + (I 94 14))], (zS I J tg))) rfl ?_
    subst h
    exact Runs.rt rfl
  · rw [if_neg c1] at h
    refine Runs.brF (P := (a1 + (I 94 14)) ≤ 1000) (a := 21) (b := 15) (L := [.ref 93, .int a1]) (S := []) (z := (zS I J tg)) rfl c1 ?_
    refine Runs.sN 2 (c' := (30, [.ref 93, .int a1], [.int 1000], (zS I J tg))) rfl ?_
    subst h
    exact Runs.rt rfl
-- X12_faded 
theorem sg_281 {L d : Nat} {xs : Nat → Int32} (I : Nat → Nat → Int32) (J : Nat → Nat → Int64) (tg : Option Nat) (a1 : Int32) (a2 : Int32) {r : Option Value × SS} (h : (Runs (GW L xs) d 281 (5, [.ref 93, .int a1, .int a2, .int a1, .int 0], [], (zS I J tg)) r)) : Runs (GW L xs) d 281 (0, [.ref 93, .int a1, .int a2, vU, vU], [], (zS I J tg)) r := by
  refine Runs.sN 4 (c' := (5, [.ref 93, .int a1, .int a2, .int a1, .int 0], [], (zS I J tg))) rfl ?_
  exact h
theorem sg_281_5 {L d : Nat} {xs : Nat → Int32} (I : Nat → Nat → Int32) (J : Nat → Nat → Int64) (tg : Option Nat) (x1 : Int32) (x2 : Int32) (x3 : Int32) (x4 : Int32) {r : Option Value × SS} (h : ((if x2 ≤ x4 then (r = (some (.int x3), (zS I J tg))) else (Runs (GW L xs) d 281 (5, [.ref 93, .int x1, .int x2, .int (x3 - ((x3 * (I 94 15)) / 1000)), .int (x4 + 1)], [], (zS I J tg)) r)))) : Runs (GW L xs) d 281 (5, [.ref 93, .int x1, .int x2, .int x3, .int x4], [], (zS I J tg)) r := by
  refine Runs.sN 2 (c' := (8, [.ref 93, .int x1, .int x2, .int x3, .int x4], [.int x2, .int x4], (zS I J tg))) rfl ?_
  by_cases c1 : x2 ≤ x4
  · rw [if_pos c1] at h
    refine Runs.brT (P := x2 ≤ x4) (a := 33) (b := 11) (L := [.ref 93, .int x1, .int x2, .int x3, .int x4]) (S := []) (z := (zS I J tg)) rfl c1 ?_
    refine Runs.sN 1 (c' := (34, [.ref 93, .int x1, .int x2, .int x3, .int x4], [.int x3], (zS I J tg))) rfl ?_
    subst h
    exact Runs.rt rfl
  · rw [if_neg c1] at h
    refine Runs.brF (P := x2 ≤ x4) (a := 33) (b := 11) (L := [.ref 93, .int x1, .int x2, .int x3, .int x4]) (S := []) (z := (zS I J tg)) rfl c1 ?_
    refine Runs.sN 13 (c' := (5, [.ref 93, .int x1, .int x2, .int (x3 - ((x3 * (I 94 15)) / 1000)), .int (x4 + 1)], [], (zS I J tg))) rfl ?_
    exact h
-- X12_teach 
theorem sg_282 {L d : Nat} {xs : Nat → Int32} (I : Nat → Nat → Int32) (J : Nat → Nat → Int64) (tg : Option Nat) (a1 : Int32) (a2 : Int32) {r : Option Value × SS} (h : (∃ (v13 : Int32) (I14 : Nat → Nat → Int32) (J15 : Nat → Nat → Int64) (tg16 : Option Nat), Runs (GW L xs) d 179 (0, [.ref 93, .int a1], [], (zS I J tg)) ((some (.int v13)), (zS I14 J15 tg16)) ∧ (if v13 = 0 then (r = (some (.int (-1)), (zS I14 J15 tg16))) else (∃ (v17 : Int32) (I18 : Nat → Nat → Int32) (J19 : Nat → Nat → Int64) (tg20 : Option Nat), Runs (GW L xs) d 182 (0, [.int a2], [], (zS I14 J15 tg16)) ((some (.int v17)), (zS I18 J19 tg20)) ∧ (if v17 = 0 then (r = (some (.int (-1)), (zS I18 J19 tg20))) else (¬ (((600 + (6 * a1)) + a2) < 0 ∨ 1200 ≤ ((600 + (6 * a1)) + a2).toNatClampNeg) ∧ ∃ (v21 : Int32) (I22 : Nat → Nat → Int32) (J23 : Nat → Nat → Int64) (tg24 : Option Nat), Runs (GW L xs) d 280 (0, [.ref 93, .int (I18 94 (((600 + (6 * a1)) + a2).toNatClampNeg))], [], (zS I18 J19 tg20)) ((some (.int v21)), (zS I22 J23 tg24)) ∧ ¬ (((600 + (6 * a1)) + a2) < 0 ∨ 1200 ≤ ((600 + (6 * a1)) + a2).toNatClampNeg) ∧ ¬ (((600 + (6 * a1)) + a2) < 0 ∨ 1200 ≤ ((600 + (6 * a1)) + a2).toNatClampNeg) ∧ r = (some (.int ((up2 I22 94 (((600 + (6 * a1)) + a2).toNatClampNeg) v21) 94 (((600 + (6 * a1)) + a2).toNatClampNeg))), (zS (up2 I22 94 (((600 + (6 * a1)) + a2).toNatClampNeg) v21) J23 tg24)))))))) : Runs (GW L xs) (d + 1) 282 (0, [.ref 93, .int a1, .int a2], [], (zS I J tg)) r := by
  refine Runs.sN 2 (c' := (2, [.ref 93, .int a1, .int a2], [.int a1, .ref 93], (zS I J tg))) rfl ?_
  obtain ⟨v13, I14, J15, tg16, c25, h⟩ := h
  refine Runs.cl (cm := 179) (as := [.ref 93, .int a1]) (rest := []) (r1 := ((some (.int v13)), (zS I14 J15 tg16))) rfl (Nat.le_of_ble_eq_true rfl) c25 ?_
  refine Runs.as (c' := (5, [.ref 93, .int a1, .int a2], [.int v13], (zS I14 J15 tg16))) rfl ?_
  by_cases c26 : v13 = 0
  · rw [if_pos c26] at h
    refine Runs.brT (P := v13 = 0) (a := 15) (b := 8) (L := [.ref 93, .int a1, .int a2]) (S := []) (z := (zS I14 J15 tg16)) rfl c26 ?_
    refine Runs.sN 1 (c' := (16, [.ref 93, .int a1, .int a2], [.int (-1)], (zS I14 J15 tg16))) rfl ?_
    subst h
    exact Runs.rt rfl
  · rw [if_neg c26] at h
    refine Runs.brF (P := v13 = 0) (a := 15) (b := 8) (L := [.ref 93, .int a1, .int a2]) (S := []) (z := (zS I14 J15 tg16)) rfl c26 ?_
    refine Runs.sN 1 (c' := (9, [.ref 93, .int a1, .int a2], [.int a2], (zS I14 J15 tg16))) rfl ?_
    obtain ⟨v17, I18, J19, tg20, c27, h⟩ := h
    refine Runs.cl (cm := 182) (as := [.int a2]) (rest := []) (r1 := ((some (.int v17)), (zS I18 J19 tg20))) rfl (Nat.le_of_ble_eq_true rfl) c27 ?_
    refine Runs.as (c' := (12, [.ref 93, .int a1, .int a2], [.int v17], (zS I18 J19 tg20))) rfl ?_
    by_cases c28 : v17 = 0
    · rw [if_pos c28] at h
      refine Runs.brT (P := v17 = 0) (a := 15) (b := 17) (L := [.ref 93, .int a1, .int a2]) (S := []) (z := (zS I18 J19 tg20)) rfl c28 ?_
      refine Runs.sN 1 (c' := (16, [.ref 93, .int a1, .int a2], [.int (-1)], (zS I18 J19 tg20))) rfl ?_
      subst h
      exact Runs.rt rfl
    · rw [if_neg c28] at h
      refine Runs.brF (P := v17 = 0) (a := 15) (b := 17) (L := [.ref 93, .int a1, .int a2]) (S := []) (z := (zS I18 J19 tg20)) rfl c28 ?_
      refine Runs.sN 19 (c' := (46, [.ref 93, .int a1, .int a2], [.int ((600 + (6 * a1)) + a2), .ref 94, .ref 93, .int ((600 + (6 * a1)) + a2), .ref 94], (zS I18 J19 tg20))) rfl ?_
      obtain ⟨c29, h⟩ := h
      refine Runs.to (c' := (47, [.ref 93, .int a1, .int a2], [.int (I18 94 (((600 + (6 * a1)) + a2).toNatClampNeg)), .ref 93, .int ((600 + (6 * a1)) + a2), .ref 94], (zS I18 J19 tg20))) (Runs.ild rfl (show (94 : Nat) < 114 by decide) rfl c29) ?_
      obtain ⟨v21, I22, J23, tg24, c30, h⟩ := h
      refine Runs.cl (cm := 280) (as := [.ref 93, .int (I18 94 (((600 + (6 * a1)) + a2).toNatClampNeg))]) (rest := [.int ((600 + (6 * a1)) + a2), .ref 94]) (r1 := ((some (.int v21)), (zS I22 J23 tg24))) rfl (Nat.le_of_ble_eq_true rfl) c30 ?_
      refine Runs.as (c' := (50, [.ref 93, .int a1, .int a2], [.int v21, .int ((600 + (6 * a1)) + a2), .ref 94], (zS I22 J23 tg24))) rfl ?_
      obtain ⟨c31, h⟩ := h
      refine Runs.to (c' := (51, [.ref 93, .int a1, .int a2], [], (zS (up2 I22 94 (((600 + (6 * a1)) + a2).toNatClampNeg) v21) J23 tg24))) (Runs.ist rfl (show (94 : Nat) < 114 by decide) rfl c31) ?_
      refine Runs.sN 9 (c' := (65, [.ref 93, .int a1, .int a2], [.int ((600 + (6 * a1)) + a2), .ref 94], (zS (up2 I22 94 (((600 + (6 * a1)) + a2).toNatClampNeg) v21) J23 tg24))) rfl ?_
      obtain ⟨c32, h⟩ := h
      refine Runs.to (c' := (66, [.ref 93, .int a1, .int a2], [.int ((up2 I22 94 (((600 + (6 * a1)) + a2).toNatClampNeg) v21) 94 (((600 + (6 * a1)) + a2).toNatClampNeg))], (zS (up2 I22 94 (((600 + (6 * a1)) + a2).toNatClampNeg) v21) J23 tg24))) (Runs.ild rfl (show (94 : Nat) < 114 by decide) rfl c32) ?_
      subst h
      exact Runs.rt rfl
-- X12_weeks 
theorem sg_283 {L d : Nat} {xs : Nat → Int32} (I : Nat → Nat → Int32) (J : Nat → Nat → Int64) (tg : Option Nat) (a1 : Int32) {r : Option Value × SS} (h : (∃ (v13 : Int32) (I14 : Nat → Nat → Int32) (J15 : Nat → Nat → Int64) (tg16 : Option Nat), Runs (GW L xs) d 177 (0, [.int a1, .int 1, .int 50], [], (zS I J tg)) ((some (.int v13)), (zS I14 J15 tg16)) ∧ (if v13 = 0 then (r = (some (.int (-1)), (zS I14 J15 tg16))) else (Runs (GW L xs) (d + 1) 283 (14, [.ref 93, .int a1, .int 0], [], (zS I14 J15 tg16)) r)))) : Runs (GW L xs) (d + 1) 283 (0, [.ref 93, .int a1, vU], [], (zS I J tg)) r := by
  refine Runs.sN 3 (c' := (4, [.ref 93, .int a1, vU], [.int 50, .int 1, .int a1], (zS I J tg))) rfl ?_
  obtain ⟨v13, I14, J15, tg16, c17, h⟩ := h
  refine Runs.cl (cm := 177) (as := [.int a1, .int 1, .int 50]) (rest := []) (r1 := ((some (.int v13)), (zS I14 J15 tg16))) rfl (Nat.le_of_ble_eq_true rfl) c17 ?_
  refine Runs.as (c' := (7, [.ref 93, .int a1, vU], [.int v13], (zS I14 J15 tg16))) rfl ?_
  by_cases c18 : v13 = 0
  · rw [if_pos c18] at h
    refine Runs.brT (P := v13 = 0) (a := 10) (b := 12) (L := [.ref 93, .int a1, vU]) (S := []) (z := (zS I14 J15 tg16)) rfl c18 ?_
    refine Runs.sN 1 (c' := (11, [.ref 93, .int a1, vU], [.int (-1)], (zS I14 J15 tg16))) rfl ?_
    subst h
    exact Runs.rt rfl
  · rw [if_neg c18] at h
    refine Runs.brF (P := v13 = 0) (a := 10) (b := 12) (L := [.ref 93, .int a1, vU]) (S := []) (z := (zS I14 J15 tg16)) rfl c18 ?_
    refine Runs.sN 2 (c' := (14, [.ref 93, .int a1, .int 0], [], (zS I14 J15 tg16))) rfl ?_
    exact h
theorem sg_283_14 {L d : Nat} {xs : Nat → Int32} (I : Nat → Nat → Int32) (J : Nat → Nat → Int64) (tg : Option Nat) (x1 : Int32) (x2 : Int32) {r : Option Value × SS} (h : ((if 72 ≤ x2 then (r = (some (.int x1), (zS I J tg))) else (¬ ((600 + x2) < 0 ∨ 1200 ≤ (600 + x2).toNatClampNeg) ∧ ∃ (v1 : Int32) (I2 : Nat → Nat → Int32) (J3 : Nat → Nat → Int64) (tg4 : Option Nat), Runs (GW L xs) d 281 (0, [.ref 93, .int (I 94 ((600 + x2).toNatClampNeg)), .int x1, vU, vU], [], (zS I J tg)) ((some (.int v1)), (zS I2 J3 tg4)) ∧ ¬ ((600 + x2) < 0 ∨ 1200 ≤ (600 + x2).toNatClampNeg) ∧ Runs (GW L xs) (d + 1) 283 (14, [.ref 93, .int x1, .int (x2 + 1)], [], (zS (up2 I2 94 ((600 + x2).toNatClampNeg) v1) J3 tg4)) r)))) : Runs (GW L xs) (d + 1) 283 (14, [.ref 93, .int x1, .int x2], [], (zS I J tg)) r := by
  refine Runs.sN 2 (c' := (17, [.ref 93, .int x1, .int x2], [.int 72, .int x2], (zS I J tg))) rfl ?_
  by_cases c5 : 72 ≤ x2
  · rw [if_pos c5] at h
    refine Runs.brT (P := 72 ≤ x2) (a := 51) (b := 20) (L := [.ref 93, .int x1, .int x2]) (S := []) (z := (zS I J tg)) rfl c5 ?_
    refine Runs.sN 1 (c' := (52, [.ref 93, .int x1, .int x2], [.int x1], (zS I J tg))) rfl ?_
    subst h
    exact Runs.rt rfl
  · rw [if_neg c5] at h
    refine Runs.brF (P := 72 ≤ x2) (a := 51) (b := 20) (L := [.ref 93, .int x1, .int x2]) (S := []) (z := (zS I J tg)) rfl c5 ?_
    refine Runs.sN 11 (c' := (39, [.ref 93, .int x1, .int x2], [.int (600 + x2), .ref 94, .ref 93, .int (600 + x2), .ref 94], (zS I J tg))) rfl ?_
    obtain ⟨c6, h⟩ := h
    refine Runs.to (c' := (40, [.ref 93, .int x1, .int x2], [.int (I 94 ((600 + x2).toNatClampNeg)), .ref 93, .int (600 + x2), .ref 94], (zS I J tg))) (Runs.ild rfl (show (94 : Nat) < 114 by decide) rfl c6) ?_
    refine Runs.sN 1 (c' := (41, [.ref 93, .int x1, .int x2], [.int x1, .int (I 94 ((600 + x2).toNatClampNeg)), .ref 93, .int (600 + x2), .ref 94], (zS I J tg))) rfl ?_
    obtain ⟨v1, I2, J3, tg4, c7, h⟩ := h
    refine Runs.cl (cm := 281) (as := [.ref 93, .int (I 94 ((600 + x2).toNatClampNeg)), .int x1]) (rest := [.int (600 + x2), .ref 94]) (r1 := ((some (.int v1)), (zS I2 J3 tg4))) rfl (Nat.le_of_ble_eq_true rfl) c7 ?_
    refine Runs.as (c' := (44, [.ref 93, .int x1, .int x2], [.int v1, .int (600 + x2), .ref 94], (zS I2 J3 tg4))) rfl ?_
    obtain ⟨c8, h⟩ := h
    refine Runs.to (c' := (45, [.ref 93, .int x1, .int x2], [], (zS (up2 I2 94 ((600 + x2).toNatClampNeg) v1) J3 tg4))) (Runs.ist rfl (show (94 : Nat) < 114 by decide) rfl c8) ?_
    refine Runs.sN 2 (c' := (14, [.ref 93, .int x1, .int (x2 + 1)], [], (zS (up2 I2 94 ((600 + x2).toNatClampNeg) v1) J3 tg4))) rfl ?_
    exact h
-- X12_tellings 
theorem sg_284 {L d : Nat} {xs : Nat → Int32} (I : Nat → Nat → Int32) (J : Nat → Nat → Int64) (tg : Option Nat) (a1 : Int32) (a2 : Int32) (a3 : Int32) {r : Option Value × SS} (h : (∃ (v33 : Int32) (I34 : Nat → Nat → Int32) (J35 : Nat → Nat → Int64) (tg36 : Option Nat), Runs (GW L xs) d 179 (0, [.ref 93, .int a1], [], (zS I J tg)) ((some (.int v33)), (zS I34 J35 tg36)) ∧ (if v33 = 0 then (r = (some (.int (-1)), (zS I34 J35 tg36))) else (∃ (v37 : Int32) (I38 : Nat → Nat → Int32) (J39 : Nat → Nat → Int64) (tg40 : Option Nat), Runs (GW L xs) d 182 (0, [.int a2], [], (zS I34 J35 tg36)) ((some (.int v37)), (zS I38 J39 tg40)) ∧ (if v37 = 0 then (r = (some (.int (-1)), (zS I38 J39 tg40))) else (∃ (v41 : Int32) (I42 : Nat → Nat → Int32) (J43 : Nat → Nat → Int64) (tg44 : Option Nat), Runs (GW L xs) d 177 (0, [.int a3, .int 0, .int 50], [], (zS I38 J39 tg40)) ((some (.int v41)), (zS I42 J43 tg44)) ∧ (if v41 = 0 then (r = (some (.int (-1)), (zS I42 J43 tg44))) else (¬ (((600 + (6 * a1)) + a2) < 0 ∨ 1200 ≤ ((600 + (6 * a1)) + a2).toNatClampNeg) ∧ Runs (GW L xs) (d + 1) 284 (47, [.ref 93, .int a1, .int a2, .int a3, .int (I42 94 (((600 + (6 * a1)) + a2).toNatClampNeg)), .int 0], [], (zS I42 J43 tg44)) r)))))))) : Runs (GW L xs) (d + 1) 284 (0, [.ref 93, .int a1, .int a2, .int a3, vU, vU], [], (zS I J tg)) r := by
  refine Runs.sN 2 (c' := (2, [.ref 93, .int a1, .int a2, .int a3, vU, vU], [.int a1, .ref 93], (zS I J tg))) rfl ?_
  obtain ⟨v33, I34, J35, tg36, c45, h⟩ := h
  refine Runs.cl (cm := 179) (as := [.ref 93, .int a1]) (rest := []) (r1 := ((some (.int v33)), (zS I34 J35 tg36))) rfl (Nat.le_of_ble_eq_true rfl) c45 ?_
  refine Runs.as (c' := (5, [.ref 93, .int a1, .int a2, .int a3, vU, vU], [.int v33], (zS I34 J35 tg36))) rfl ?_
  by_cases c46 : v33 = 0
  · rw [if_pos c46] at h
    refine Runs.brT (P := v33 = 0) (a := 25) (b := 8) (L := [.ref 93, .int a1, .int a2, .int a3, vU, vU]) (S := []) (z := (zS I34 J35 tg36)) rfl c46 ?_
    refine Runs.sN 1 (c' := (26, [.ref 93, .int a1, .int a2, .int a3, vU, vU], [.int (-1)], (zS I34 J35 tg36))) rfl ?_
    subst h
    exact Runs.rt rfl
  · rw [if_neg c46] at h
    refine Runs.brF (P := v33 = 0) (a := 25) (b := 8) (L := [.ref 93, .int a1, .int a2, .int a3, vU, vU]) (S := []) (z := (zS I34 J35 tg36)) rfl c46 ?_
    refine Runs.sN 1 (c' := (9, [.ref 93, .int a1, .int a2, .int a3, vU, vU], [.int a2], (zS I34 J35 tg36))) rfl ?_
    obtain ⟨v37, I38, J39, tg40, c47, h⟩ := h
    refine Runs.cl (cm := 182) (as := [.int a2]) (rest := []) (r1 := ((some (.int v37)), (zS I38 J39 tg40))) rfl (Nat.le_of_ble_eq_true rfl) c47 ?_
    refine Runs.as (c' := (12, [.ref 93, .int a1, .int a2, .int a3, vU, vU], [.int v37], (zS I38 J39 tg40))) rfl ?_
    by_cases c48 : v37 = 0
    · rw [if_pos c48] at h
      refine Runs.brT (P := v37 = 0) (a := 25) (b := 15) (L := [.ref 93, .int a1, .int a2, .int a3, vU, vU]) (S := []) (z := (zS I38 J39 tg40)) rfl c48 ?_
      refine Runs.sN 1 (c' := (26, [.ref 93, .int a1, .int a2, .int a3, vU, vU], [.int (-1)], (zS I38 J39 tg40))) rfl ?_
      subst h
      exact Runs.rt rfl
    · rw [if_neg c48] at h
      refine Runs.brF (P := v37 = 0) (a := 25) (b := 15) (L := [.ref 93, .int a1, .int a2, .int a3, vU, vU]) (S := []) (z := (zS I38 J39 tg40)) rfl c48 ?_
      refine Runs.sN 3 (c' := (19, [.ref 93, .int a1, .int a2, .int a3, vU, vU], [.int 50, .int 0, .int a3], (zS I38 J39 tg40))) rfl ?_
      obtain ⟨v41, I42, J43, tg44, c49, h⟩ := h
      refine Runs.cl (cm := 177) (as := [.int a3, .int 0, .int 50]) (rest := []) (r1 := ((some (.int v41)), (zS I42 J43 tg44))) rfl (Nat.le_of_ble_eq_true rfl) c49 ?_
      refine Runs.as (c' := (22, [.ref 93, .int a1, .int a2, .int a3, vU, vU], [.int v41], (zS I42 J43 tg44))) rfl ?_
      by_cases c50 : v41 = 0
      · rw [if_pos c50] at h
        refine Runs.brT (P := v41 = 0) (a := 25) (b := 27) (L := [.ref 93, .int a1, .int a2, .int a3, vU, vU]) (S := []) (z := (zS I42 J43 tg44)) rfl c50 ?_
        refine Runs.sN 1 (c' := (26, [.ref 93, .int a1, .int a2, .int a3, vU, vU], [.int (-1)], (zS I42 J43 tg44))) rfl ?_
        subst h
        exact Runs.rt rfl
      · rw [if_neg c50] at h
        refine Runs.brF (P := v41 = 0) (a := 25) (b := 27) (L := [.ref 93, .int a1, .int a2, .int a3, vU, vU]) (S := []) (z := (zS I42 J43 tg44)) rfl c50 ?_
        refine Runs.sN 9 (c' := (41, [.ref 93, .int a1, .int a2, .int a3, vU, vU], [.int ((600 + (6 * a1)) + a2), .ref 94], (zS I42 J43 tg44))) rfl ?_
        obtain ⟨c51, h⟩ := h
        refine Runs.to (c' := (42, [.ref 93, .int a1, .int a2, .int a3, vU, vU], [.int (I42 94 (((600 + (6 * a1)) + a2).toNatClampNeg))], (zS I42 J43 tg44))) (Runs.ild rfl (show (94 : Nat) < 114 by decide) rfl c51) ?_
        refine Runs.sN 3 (c' := (47, [.ref 93, .int a1, .int a2, .int a3, .int (I42 94 (((600 + (6 * a1)) + a2).toNatClampNeg)), .int 0], [], (zS I42 J43 tg44))) rfl ?_
        exact h
theorem sg_284_47 {L d : Nat} {xs : Nat → Int32} (I : Nat → Nat → Int32) (J : Nat → Nat → Int64) (tg : Option Nat) (x1 : Int32) (x2 : Int32) (x3 : Int32) (x4 : Int32) (x5 : Int32) {r : Option Value × SS} (h : ((if 100 < x5 then (r = (some (.int (-1)), (zS I J tg))) else (∃ (v1 : Int32) (I2 : Nat → Nat → Int32) (J3 : Nat → Nat → Int64) (tg4 : Option Nat), Runs (GW L xs) d 281 (0, [.ref 93, .int x4, .int x3, vU, vU], [], (zS I J tg)) ((some (.int v1)), (zS I2 J3 tg4)) ∧ (if v1 < 500 then (∃ (v5 : Int32) (I6 : Nat → Nat → Int32) (J7 : Nat → Nat → Int64) (tg8 : Option Nat), Runs (GW L xs) d 280 (0, [.ref 93, .int x4], [], (zS I2 J3 tg4)) ((some (.int v5)), (zS I6 J7 tg8)) ∧ Runs (GW L xs) (d + 1) 284 (47, [.ref 93, .int x1, .int x2, .int x3, .int v5, .int (x5 + 1)], [], (zS I6 J7 tg8)) r) else (r = (some (.int x5), (zS I2 J3 tg4)))))))) : Runs (GW L xs) (d + 1) 284 (47, [.ref 93, .int x1, .int x2, .int x3, .int x4, .int x5], [], (zS I J tg)) r := by
  refine Runs.sN 2 (c' := (51, [.ref 93, .int x1, .int x2, .int x3, .int x4, .int x5], [.int 100, .int x5], (zS I J tg))) rfl ?_
  by_cases c9 : 100 < x5
  · rw [if_pos c9] at h
    refine Runs.brT (P := 100 < x5) (a := 84) (b := 54) (L := [.ref 93, .int x1, .int x2, .int x3, .int x4, .int x5]) (S := []) (z := (zS I J tg)) rfl c9 ?_
    refine Runs.sN 1 (c' := (85, [.ref 93, .int x1, .int x2, .int x3, .int x4, .int x5], [.int (-1)], (zS I J tg))) rfl ?_
    subst h
    exact Runs.rt rfl
  · rw [if_neg c9] at h
    refine Runs.brF (P := 100 < x5) (a := 84) (b := 54) (L := [.ref 93, .int x1, .int x2, .int x3, .int x4, .int x5]) (S := []) (z := (zS I J tg)) rfl c9 ?_
    refine Runs.sN 3 (c' := (58, [.ref 93, .int x1, .int x2, .int x3, .int x4, .int x5], [.int x3, .int x4, .ref 93], (zS I J tg))) rfl ?_
    obtain ⟨v1, I2, J3, tg4, c10, h⟩ := h
    refine Runs.cl (cm := 281) (as := [.ref 93, .int x4, .int x3]) (rest := []) (r1 := ((some (.int v1)), (zS I2 J3 tg4))) rfl (Nat.le_of_ble_eq_true rfl) c10 ?_
    refine Runs.as (c' := (61, [.ref 93, .int x1, .int x2, .int x3, .int x4, .int x5], [.int v1], (zS I2 J3 tg4))) rfl ?_
    refine Runs.sN 1 (c' := (64, [.ref 93, .int x1, .int x2, .int x3, .int x4, .int x5], [.int 500, .int v1], (zS I2 J3 tg4))) rfl ?_
    by_cases c11 : v1 < 500
    · rw [if_pos c11] at h
      refine Runs.brT (P := v1 < 500) (a := 70) (b := 67) (L := [.ref 93, .int x1, .int x2, .int x3, .int x4, .int x5]) (S := []) (z := (zS I2 J3 tg4)) rfl c11 ?_
      refine Runs.sN 2 (c' := (73, [.ref 93, .int x1, .int x2, .int x3, .int x4, .int x5], [.int x4, .ref 93], (zS I2 J3 tg4))) rfl ?_
      obtain ⟨v5, I6, J7, tg8, c12, h⟩ := h
      refine Runs.cl (cm := 280) (as := [.ref 93, .int x4]) (rest := []) (r1 := ((some (.int v5)), (zS I6 J7 tg8))) rfl (Nat.le_of_ble_eq_true rfl) c12 ?_
      refine Runs.as (c' := (76, [.ref 93, .int x1, .int x2, .int x3, .int x4, .int x5], [.int v5], (zS I6 J7 tg8))) rfl ?_
      refine Runs.sN 3 (c' := (47, [.ref 93, .int x1, .int x2, .int x3, .int v5, .int (x5 + 1)], [], (zS I6 J7 tg8))) rfl ?_
      exact h
    · rw [if_neg c11] at h
      refine Runs.brF (P := v1 < 500) (a := 70) (b := 67) (L := [.ref 93, .int x1, .int x2, .int x3, .int x4, .int x5]) (S := []) (z := (zS I2 J3 tg4)) rfl c11 ?_
      refine Runs.sN 1 (c' := (69, [.ref 93, .int x1, .int x2, .int x3, .int x4, .int x5], [.int x5], (zS I2 J3 tg4))) rfl ?_
      subst h
      exact Runs.rt rfl
-- X12_worstHarm 
theorem sg_285 {L d : Nat} {xs : Nat → Int32} (I : Nat → Nat → Int32) (J : Nat → Nat → Int64) (tg : Option Nat) (a1 : Int32) (a2 : Int32) (a3 : Int32) {r : Option Value × SS} (h : (∃ (I27 : Nat → Nat → Int32) (J28 : Nat → Nat → Int64) (tg29 : Option Nat), Runs (GW L xs) d 203 (0, [.ref 93, .int a1, .int a2, vU], [], (zS I J tg)) (none, (zS I27 J28 tg29)) ∧ Runs (GW L xs) (d + 1) 285 (12, [.ref 93, .int a1, .int a2, .int a3, .int (-1), .int 0, vU, vU], [], (zS I27 J28 tg29)) r)) : Runs (GW L xs) (d + 1) 285 (0, [.ref 93, .int a1, .int a2, .int a3, vU, vU, vU, vU], [], (zS I J tg)) r := by
  refine Runs.sN 5 (c' := (6, [.ref 93, .int a1, .int a2, .int a3, .int (-1), vU, vU, vU], [.int a2, .int a1, .ref 93], (zS I J tg))) rfl ?_
  obtain ⟨I27, J28, tg29, c30, h⟩ := h
  refine Runs.cl (cm := 203) (as := [.ref 93, .int a1, .int a2]) (rest := []) (r1 := (none, (zS I27 J28 tg29))) rfl (Nat.le_of_ble_eq_true rfl) c30 ?_
  refine Runs.as (c' := (9, [.ref 93, .int a1, .int a2, .int a3, .int (-1), vU, vU, vU], [], (zS I27 J28 tg29))) rfl ?_
  refine Runs.sN 2 (c' := (12, [.ref 93, .int a1, .int a2, .int a3, .int (-1), .int 0, vU, vU], [], (zS I27 J28 tg29))) rfl ?_
  exact h
theorem sg_285_12 {L d : Nat} {xs : Nat → Int32} (I : Nat → Nat → Int32) (J : Nat → Nat → Int64) (tg : Option Nat) (x1 : Int32) (x2 : Int32) (x3 : Int32) (x4 : Int32) (x5 : Int32) {r : Option Value × SS} (h : (∃ (v1 : Int32) (I2 : Nat → Nat → Int32) (J3 : Nat → Nat → Int64) (tg4 : Option Nat), Runs (GW L xs) d 199 (0, [.ref 93], [], (zS I J tg)) ((some (.int v1)), (zS I2 J3 tg4)) ∧ (if v1 < x5 then (r = (some (.int x4), (zS I2 J3 tg4))) else (∃ (v5 : Int32) (I6 : Nat → Nat → Int32) (J7 : Nat → Nat → Int64) (tg8 : Option Nat), Runs (GW L xs) d 185 (0, [.int x5, vU, vU], [], (zS I2 J3 tg4)) ((some (.int v5)), (zS I6 J7 tg8)) ∧ (if v5 = x3 then (∃ (v9 : Int32) (I10 : Nat → Nat → Int32) (J11 : Nat → Nat → Int64) (tg12 : Option Nat), Runs (GW L xs) d 204 (0, [.ref 93, .int x5, .int 0, .int 0, vU, vU, vU, vU, vU], [], (zS I6 J7 tg8)) ((some (.int v9)), (zS I10 J11 tg12)) ∧ ∃ (v13 : Int32) (I14 : Nat → Nat → Int32) (J15 : Nat → Nat → Int64) (tg16 : Option Nat), Runs (GW L xs) d 245 (0, [.ref 93, .int x1, .int v9], [], (zS I10 J11 tg12)) ((some (.int v13)), (zS I14 J15 tg16)) ∧ (if v13 = 0 then (∃ (v17 : Int32) (I18 : Nat → Nat → Int32) (J19 : Nat → Nat → Int64) (tg20 : Option Nat), Runs (GW L xs) d 247 (0, [.ref 93, .int x1, .int v9, .int (-1), .int x2, vU, vU, vU, vU], [], (zS I14 J15 tg16)) ((some (.int v17)), (zS I18 J19 tg20)) ∧ (if x4 < v17 then (Runs (GW L xs) (d + 1) 285 (12, [.ref 93, .int x1, .int x2, .int x3, .int v17, .int (x5 + 1), vU, vU], [], (zS (up2 I18 93 36 x5) J19 tg20)) r) else (Runs (GW L xs) (d + 1) 285 (12, [.ref 93, .int x1, .int x2, .int x3, .int x4, .int (x5 + 1), vU, vU], [], (zS I18 J19 tg20)) r))) else ((if x4 < 0 then (Runs (GW L xs) (d + 1) 285 (12, [.ref 93, .int x1, .int x2, .int x3, .int 0, .int (x5 + 1), vU, vU], [], (zS (up2 I14 93 36 x5) J15 tg16)) r) else (Runs (GW L xs) (d + 1) 285 (12, [.ref 93, .int x1, .int x2, .int x3, .int x4, .int (x5 + 1), vU, vU], [], (zS I14 J15 tg16)) r))))) else (Runs (GW L xs) (d + 1) 285 (12, [.ref 93, .int x1, .int x2, .int x3, .int x4, .int (x5 + 1), vU, vU], [], (zS I6 J7 tg8)) r)))))) : Runs (GW L xs) (d + 1) 285 (12, [.ref 93, .int x1, .int x2, .int x3, .int x4, .int x5, vU, vU], [], (zS I J tg)) r := by
  refine Runs.sN 2 (c' := (15, [.ref 93, .int x1, .int x2, .int x3, .int x4, .int x5, vU, vU], [.ref 93, .int x5], (zS I J tg))) rfl ?_
  obtain ⟨v1, I2, J3, tg4, c21, h⟩ := h
  refine Runs.cl (cm := 199) (as := [.ref 93]) (rest := [.int x5]) (r1 := ((some (.int v1)), (zS I2 J3 tg4))) rfl (Nat.le_of_ble_eq_true rfl) c21 ?_
  refine Runs.as (c' := (18, [.ref 93, .int x1, .int x2, .int x3, .int x4, .int x5, vU, vU], [.int v1, .int x5], (zS I2 J3 tg4))) rfl ?_
  by_cases c22 : v1 < x5
  · rw [if_pos c22] at h
    refine Runs.brT (P := v1 < x5) (a := 94) (b := 21) (L := [.ref 93, .int x1, .int x2, .int x3, .int x4, .int x5, vU, vU]) (S := []) (z := (zS I2 J3 tg4)) rfl c22 ?_
    refine Runs.sN 1 (c' := (96, [.ref 93, .int x1, .int x2, .int x3, .int x4, .int x5, vU, vU], [.int x4], (zS I2 J3 tg4))) rfl ?_
    subst h
    exact Runs.rt rfl
  · rw [if_neg c22] at h
    refine Runs.brF (P := v1 < x5) (a := 94) (b := 21) (L := [.ref 93, .int x1, .int x2, .int x3, .int x4, .int x5, vU, vU]) (S := []) (z := (zS I2 J3 tg4)) rfl c22 ?_
    refine Runs.sN 1 (c' := (23, [.ref 93, .int x1, .int x2, .int x3, .int x4, .int x5, vU, vU], [.int x5], (zS I2 J3 tg4))) rfl ?_
    obtain ⟨v5, I6, J7, tg8, c23, h⟩ := h
    refine Runs.cl (cm := 185) (as := [.int x5]) (rest := []) (r1 := ((some (.int v5)), (zS I6 J7 tg8))) rfl (Nat.le_of_ble_eq_true rfl) c23 ?_
    refine Runs.as (c' := (26, [.ref 93, .int x1, .int x2, .int x3, .int x4, .int x5, vU, vU], [.int v5], (zS I6 J7 tg8))) rfl ?_
    refine Runs.sN 1 (c' := (27, [.ref 93, .int x1, .int x2, .int x3, .int x4, .int x5, vU, vU], [.int x3, .int v5], (zS I6 J7 tg8))) rfl ?_
    by_cases c24 : v5 = x3
    · rw [if_pos c24] at h
      refine Runs.brT (P := v5 = x3) (a := 33) (b := 30) (L := [.ref 93, .int x1, .int x2, .int x3, .int x4, .int x5, vU, vU]) (S := []) (z := (zS I6 J7 tg8)) rfl c24 ?_
      refine Runs.sN 4 (c' := (38, [.ref 93, .int x1, .int x2, .int x3, .int x4, .int x5, vU, vU], [.int 0, .int 0, .int x5, .ref 93], (zS I6 J7 tg8))) rfl ?_
      obtain ⟨v9, I10, J11, tg12, c25, h⟩ := h
      refine Runs.cl (cm := 204) (as := [.ref 93, .int x5, .int 0, .int 0]) (rest := []) (r1 := ((some (.int v9)), (zS I10 J11 tg12))) rfl (Nat.le_of_ble_eq_true rfl) c25 ?_
      refine Runs.as (c' := (41, [.ref 93, .int x1, .int x2, .int x3, .int x4, .int x5, vU, vU], [.int v9], (zS I10 J11 tg12))) rfl ?_
      refine Runs.sN 4 (c' := (47, [.ref 93, .int x1, .int x2, .int x3, .int x4, .int x5, .int v9, vU], [.int v9, .int x1, .ref 93], (zS I10 J11 tg12))) rfl ?_
      obtain ⟨v13, I14, J15, tg16, c26, h⟩ := h
      refine Runs.cl (cm := 245) (as := [.ref 93, .int x1, .int v9]) (rest := []) (r1 := ((some (.int v13)), (zS I14 J15 tg16))) rfl (Nat.le_of_ble_eq_true rfl) c26 ?_
      refine Runs.as (c' := (50, [.ref 93, .int x1, .int x2, .int x3, .int x4, .int x5, .int v9, vU], [.int v13], (zS I14 J15 tg16))) rfl ?_
      by_cases c27 : v13 = 0
      · rw [if_pos c27] at h
        refine Runs.brT (P := v13 = 0) (a := 57) (b := 53) (L := [.ref 93, .int x1, .int x2, .int x3, .int x4, .int x5, .int v9, vU]) (S := []) (z := (zS I14 J15 tg16)) rfl c27 ?_
        refine Runs.sN 5 (c' := (63, [.ref 93, .int x1, .int x2, .int x3, .int x4, .int x5, .int v9, vU], [.int x2, .int (-1), .int v9, .int x1, .ref 93], (zS I14 J15 tg16))) rfl ?_
        obtain ⟨v17, I18, J19, tg20, c28, h⟩ := h
        refine Runs.cl (cm := 247) (as := [.ref 93, .int x1, .int v9, .int (-1), .int x2]) (rest := []) (r1 := ((some (.int v17)), (zS I18 J19 tg20))) rfl (Nat.le_of_ble_eq_true rfl) c28 ?_
        refine Runs.as (c' := (66, [.ref 93, .int x1, .int x2, .int x3, .int x4, .int x5, .int v9, vU], [.int v17], (zS I18 J19 tg20))) rfl ?_
        refine Runs.sN 3 (c' := (72, [.ref 93, .int x1, .int x2, .int x3, .int x4, .int x5, .int v9, .int v17], [.int x4, .int v17], (zS I18 J19 tg20))) rfl ?_
        by_cases c29 : x4 < v17
        · rw [if_pos c29] at h
          refine Runs.brT (P := x4 < v17) (a := 78) (b := 75) (L := [.ref 93, .int x1, .int x2, .int x3, .int x4, .int x5, .int v9, .int v17]) (S := []) (z := (zS I18 J19 tg20)) rfl c29 ?_
          refine Runs.sN 7 (c' := (12, [.ref 93, .int x1, .int x2, .int x3, .int v17, .int (x5 + 1), .int v9, .int v17], [], (zS (up2 I18 93 36 x5) J19 tg20))) rfl ?_
          exact Runs.weak (L := [.ref 93, .int x1, .int x2, .int x3, .int v17, .int (x5 + 1), vU, vU]) (Lle.k (Lle.k (Lle.k (Lle.k (Lle.k (Lle.k (Lle.u (Lle.u Lle.n)))))))) h
        · rw [if_neg c29] at h
          refine Runs.brF (P := x4 < v17) (a := 78) (b := 75) (L := [.ref 93, .int x1, .int x2, .int x3, .int x4, .int x5, .int v9, .int v17]) (S := []) (z := (zS I18 J19 tg20)) rfl c29 ?_
          refine Runs.sN 3 (c' := (12, [.ref 93, .int x1, .int x2, .int x3, .int x4, .int (x5 + 1), .int v9, .int v17], [], (zS I18 J19 tg20))) rfl ?_
          exact Runs.weak (L := [.ref 93, .int x1, .int x2, .int x3, .int x4, .int (x5 + 1), vU, vU]) (Lle.k (Lle.k (Lle.k (Lle.k (Lle.k (Lle.k (Lle.u (Lle.u Lle.n)))))))) h
      · rw [if_neg c27] at h
        refine Runs.brF (P := v13 = 0) (a := 57) (b := 53) (L := [.ref 93, .int x1, .int x2, .int x3, .int x4, .int x5, .int v9, vU]) (S := []) (z := (zS I14 J15 tg16)) rfl c27 ?_
        refine Runs.sN 5 (c' := (72, [.ref 93, .int x1, .int x2, .int x3, .int x4, .int x5, .int v9, .int 0], [.int x4, .int 0], (zS I14 J15 tg16))) rfl ?_
        by_cases c30 : x4 < 0
        · rw [if_pos c30] at h
          refine Runs.brT (P := x4 < 0) (a := 78) (b := 75) (L := [.ref 93, .int x1, .int x2, .int x3, .int x4, .int x5, .int v9, .int 0]) (S := []) (z := (zS I14 J15 tg16)) rfl c30 ?_
          refine Runs.sN 7 (c' := (12, [.ref 93, .int x1, .int x2, .int x3, .int 0, .int (x5 + 1), .int v9, .int 0], [], (zS (up2 I14 93 36 x5) J15 tg16))) rfl ?_
          exact Runs.weak (L := [.ref 93, .int x1, .int x2, .int x3, .int 0, .int (x5 + 1), vU, vU]) (Lle.k (Lle.k (Lle.k (Lle.k (Lle.k (Lle.k (Lle.u (Lle.u Lle.n)))))))) h
        · rw [if_neg c30] at h
          refine Runs.brF (P := x4 < 0) (a := 78) (b := 75) (L := [.ref 93, .int x1, .int x2, .int x3, .int x4, .int x5, .int v9, .int 0]) (S := []) (z := (zS I14 J15 tg16)) rfl c30 ?_
          refine Runs.sN 3 (c' := (12, [.ref 93, .int x1, .int x2, .int x3, .int x4, .int (x5 + 1), .int v9, .int 0], [], (zS I14 J15 tg16))) rfl ?_
          exact Runs.weak (L := [.ref 93, .int x1, .int x2, .int x3, .int x4, .int (x5 + 1), vU, vU]) (Lle.k (Lle.k (Lle.k (Lle.k (Lle.k (Lle.k (Lle.u (Lle.u Lle.n)))))))) h
    · rw [if_neg c24] at h
      refine Runs.brF (P := v5 = x3) (a := 33) (b := 30) (L := [.ref 93, .int x1, .int x2, .int x3, .int x4, .int x5, vU, vU]) (S := []) (z := (zS I6 J7 tg8)) rfl c24 ?_
      refine Runs.sN 3 (c' := (12, [.ref 93, .int x1, .int x2, .int x3, .int x4, .int (x5 + 1), vU, vU], [], (zS I6 J7 tg8))) rfl ?_
      exact h
-- X12_anybody 
theorem sg_286 {L d : Nat} {xs : Nat → Int32} (I : Nat → Nat → Int32) (J : Nat → Nat → Int64) (tg : Option Nat) (a1 : Int32) (a2 : Int32) (a3 : Int32) (a4 : Int32) {r : Option Value × SS} (h : (∃ (v21 : Int32) (I22 : Nat → Nat → Int32) (J23 : Nat → Nat → Int64) (tg24 : Option Nat), Runs (GW L xs) d 179 (0, [.ref 93, .int a1], [], (zS I J tg)) ((some (.int v21)), (zS I22 J23 tg24)) ∧ (if v21 = 0 then (r = (some (.int (-1)), (zS I22 J23 tg24))) else (∃ (v25 : Int32) (I26 : Nat → Nat → Int32) (J27 : Nat → Nat → Int64) (tg28 : Option Nat), Runs (GW L xs) d 182 (0, [.int a2], [], (zS I22 J23 tg24)) ((some (.int v25)), (zS I26 J27 tg28)) ∧ (if v25 = 0 then (r = (some (.int (-1)), (zS I26 J27 tg28))) else (∃ (v29 : Int32) (I30 : Nat → Nat → Int32) (J31 : Nat → Nat → Int64) (tg32 : Option Nat), Runs (GW L xs) d 177 (0, [.int a3, .int 0, .int (I26 94 2)], [], (zS I26 J27 tg28)) ((some (.int v29)), (zS I30 J31 tg32)) ∧ (if v29 = 0 then (r = (some (.int (-1)), (zS I30 J31 tg32))) else (∃ (v33 : Int32) (I34 : Nat → Nat → Int32) (J35 : Nat → Nat → Int64) (tg36 : Option Nat), Runs (GW L xs) d 177 (0, [.int a4, .int 0, .int 1], [], (zS I30 J31 tg32)) ((some (.int v33)), (zS I34 J35 tg36)) ∧ (if v33 = 0 then (r = (some (.int (-1)), (zS I34 J35 tg36))) else (∃ (v37 : Int32) (I38 : Nat → Nat → Int32) (J39 : Nat → Nat → Int64) (tg40 : Option Nat), Runs (GW L xs) d 285 (0, [.ref 93, .int a1, .int a2, .int a3, vU, vU, vU, vU], [], (zS I34 J35 tg36)) ((some (.int v37)), (zS I38 J39 tg40)) ∧ (if a4 = 0 then (r = (some (.int v37), (zS I38 J39 tg40))) else (r = (some (.int (I38 93 36)), (zS I38 J39 tg40)))))))))))))) : Runs (GW L xs) (d + 1) 286 (0, [.ref 93, .int a1, .int a2, .int a3, .int a4, vU], [], (zS I J tg)) r := by
  refine Runs.sN 2 (c' := (2, [.ref 93, .int a1, .int a2, .int a3, .int a4, vU], [.int a1, .ref 93], (zS I J tg))) rfl ?_
  obtain ⟨v21, I22, J23, tg24, c41, h⟩ := h
  refine Runs.cl (cm := 179) (as := [.ref 93, .int a1]) (rest := []) (r1 := ((some (.int v21)), (zS I22 J23 tg24))) rfl (Nat.le_of_ble_eq_true rfl) c41 ?_
  refine Runs.as (c' := (5, [.ref 93, .int a1, .int a2, .int a3, .int a4, vU], [.int v21], (zS I22 J23 tg24))) rfl ?_
  by_cases c42 : v21 = 0
  · rw [if_pos c42] at h
    refine Runs.brT (P := v21 = 0) (a := 39) (b := 8) (L := [.ref 93, .int a1, .int a2, .int a3, .int a4, vU]) (S := []) (z := (zS I22 J23 tg24)) rfl c42 ?_
    refine Runs.sN 1 (c' := (40, [.ref 93, .int a1, .int a2, .int a3, .int a4, vU], [.int (-1)], (zS I22 J23 tg24))) rfl ?_
    subst h
    exact Runs.rt rfl
  · rw [if_neg c42] at h
    refine Runs.brF (P := v21 = 0) (a := 39) (b := 8) (L := [.ref 93, .int a1, .int a2, .int a3, .int a4, vU]) (S := []) (z := (zS I22 J23 tg24)) rfl c42 ?_
    refine Runs.sN 1 (c' := (9, [.ref 93, .int a1, .int a2, .int a3, .int a4, vU], [.int a2], (zS I22 J23 tg24))) rfl ?_
    obtain ⟨v25, I26, J27, tg28, c43, h⟩ := h
    refine Runs.cl (cm := 182) (as := [.int a2]) (rest := []) (r1 := ((some (.int v25)), (zS I26 J27 tg28))) rfl (Nat.le_of_ble_eq_true rfl) c43 ?_
    refine Runs.as (c' := (12, [.ref 93, .int a1, .int a2, .int a3, .int a4, vU], [.int v25], (zS I26 J27 tg28))) rfl ?_
    by_cases c44 : v25 = 0
    · rw [if_pos c44] at h
      refine Runs.brT (P := v25 = 0) (a := 39) (b := 15) (L := [.ref 93, .int a1, .int a2, .int a3, .int a4, vU]) (S := []) (z := (zS I26 J27 tg28)) rfl c44 ?_
      refine Runs.sN 1 (c' := (40, [.ref 93, .int a1, .int a2, .int a3, .int a4, vU], [.int (-1)], (zS I26 J27 tg28))) rfl ?_
      subst h
      exact Runs.rt rfl
    · rw [if_neg c44] at h
      refine Runs.brF (P := v25 = 0) (a := 39) (b := 15) (L := [.ref 93, .int a1, .int a2, .int a3, .int a4, vU]) (S := []) (z := (zS I26 J27 tg28)) rfl c44 ?_
      refine Runs.sN 6 (c' := (23, [.ref 93, .int a1, .int a2, .int a3, .int a4, vU], [.int (I26 94 2), .int 0, .int a3], (zS I26 J27 tg28))) rfl ?_
      obtain ⟨v29, I30, J31, tg32, c45, h⟩ := h
      refine Runs.cl (cm := 177) (as := [.int a3, .int 0, .int (I26 94 2)]) (rest := []) (r1 := ((some (.int v29)), (zS I30 J31 tg32))) rfl (Nat.le_of_ble_eq_true rfl) c45 ?_
      refine Runs.as (c' := (26, [.ref 93, .int a1, .int a2, .int a3, .int a4, vU], [.int v29], (zS I30 J31 tg32))) rfl ?_
      by_cases c46 : v29 = 0
      · rw [if_pos c46] at h
        refine Runs.brT (P := v29 = 0) (a := 39) (b := 29) (L := [.ref 93, .int a1, .int a2, .int a3, .int a4, vU]) (S := []) (z := (zS I30 J31 tg32)) rfl c46 ?_
        refine Runs.sN 1 (c' := (40, [.ref 93, .int a1, .int a2, .int a3, .int a4, vU], [.int (-1)], (zS I30 J31 tg32))) rfl ?_
        subst h
        exact Runs.rt rfl
      · rw [if_neg c46] at h
        refine Runs.brF (P := v29 = 0) (a := 39) (b := 29) (L := [.ref 93, .int a1, .int a2, .int a3, .int a4, vU]) (S := []) (z := (zS I30 J31 tg32)) rfl c46 ?_
        refine Runs.sN 3 (c' := (33, [.ref 93, .int a1, .int a2, .int a3, .int a4, vU], [.int 1, .int 0, .int a4], (zS I30 J31 tg32))) rfl ?_
        obtain ⟨v33, I34, J35, tg36, c47, h⟩ := h
        refine Runs.cl (cm := 177) (as := [.int a4, .int 0, .int 1]) (rest := []) (r1 := ((some (.int v33)), (zS I34 J35 tg36))) rfl (Nat.le_of_ble_eq_true rfl) c47 ?_
        refine Runs.as (c' := (36, [.ref 93, .int a1, .int a2, .int a3, .int a4, vU], [.int v33], (zS I34 J35 tg36))) rfl ?_
        by_cases c48 : v33 = 0
        · rw [if_pos c48] at h
          refine Runs.brT (P := v33 = 0) (a := 39) (b := 41) (L := [.ref 93, .int a1, .int a2, .int a3, .int a4, vU]) (S := []) (z := (zS I34 J35 tg36)) rfl c48 ?_
          refine Runs.sN 1 (c' := (40, [.ref 93, .int a1, .int a2, .int a3, .int a4, vU], [.int (-1)], (zS I34 J35 tg36))) rfl ?_
          subst h
          exact Runs.rt rfl
        · rw [if_neg c48] at h
          refine Runs.brF (P := v33 = 0) (a := 39) (b := 41) (L := [.ref 93, .int a1, .int a2, .int a3, .int a4, vU]) (S := []) (z := (zS I34 J35 tg36)) rfl c48 ?_
          refine Runs.sN 4 (c' := (45, [.ref 93, .int a1, .int a2, .int a3, .int a4, vU], [.int a3, .int a2, .int a1, .ref 93], (zS I34 J35 tg36))) rfl ?_
          obtain ⟨v37, I38, J39, tg40, c49, h⟩ := h
          refine Runs.cl (cm := 285) (as := [.ref 93, .int a1, .int a2, .int a3]) (rest := []) (r1 := ((some (.int v37)), (zS I38 J39 tg40))) rfl (Nat.le_of_ble_eq_true rfl) c49 ?_
          refine Runs.as (c' := (48, [.ref 93, .int a1, .int a2, .int a3, .int a4, vU], [.int v37], (zS I38 J39 tg40))) rfl ?_
          refine Runs.sN 2 (c' := (52, [.ref 93, .int a1, .int a2, .int a3, .int a4, .int v37], [.int a4], (zS I38 J39 tg40))) rfl ?_
          by_cases c50 : a4 = 0
          · rw [if_pos c50] at h
            refine Runs.brT (P := a4 = 0) (a := 55) (b := 60) (L := [.ref 93, .int a1, .int a2, .int a3, .int a4, .int v37]) (S := []) (z := (zS I38 J39 tg40)) rfl c50 ?_
            refine Runs.sN 2 (c' := (64, [.ref 93, .int a1, .int a2, .int a3, .int a4, .int v37], [.int v37], (zS I38 J39 tg40))) rfl ?_
            subst h
            exact Runs.rt rfl
          · rw [if_neg c50] at h
            refine Runs.brF (P := a4 = 0) (a := 55) (b := 60) (L := [.ref 93, .int a1, .int a2, .int a3, .int a4, .int v37]) (S := []) (z := (zS I38 J39 tg40)) rfl c50 ?_
            refine Runs.sN 2 (c' := (64, [.ref 93, .int a1, .int a2, .int a3, .int a4, .int v37], [.int (I38 93 36)], (zS I38 J39 tg40))) rfl ?_
            subst h
            exact Runs.rt rfl
