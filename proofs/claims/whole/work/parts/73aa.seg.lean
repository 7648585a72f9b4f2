-- X0_seekMade 
theorem sg_1 {L d : Nat} {xs : Nat → Int32} (I : Nat → Nat → Int32) (J : Nat → Nat → Int64) (tg : Option Nat) (a1 : Int32) (a2 : Int32) {r : Option Value × SS} (h : (∃ (I4 : Nat → Nat → Int32), Runs (GW L xs) d 97 (0, [.ref 75, .int a1, .int a2, .ref 80, .int 0, .int 0, vU], [], (zS (up2 I 79 7 a1) J tg)) (none, (zS I4 J tg)) ∧ Runs (GW L xs) (d + 1) 1 (27, [.ref 79, .int a1, .int a2, .int 0], [], (zS (up2 I4 79 8 0) J tg)) r)) : Runs (GW L xs) (d + 1) 1 (0, [.ref 79, .int a1, .int a2, vU], [], (zS I J tg)) r := by
  refine Runs.sN 11 (c' := (17, [.ref 79, .int a1, .int a2, vU], [.int 0, .int 0, .ref 80, .int a2, .int a1, .ref 75], (zS (up2 I 79 7 a1) J tg))) rfl ?_
  obtain ⟨I4, c5, h⟩ := h
  refine Runs.cl (cm := 97) (as := [.ref 75, .int a1, .int a2, .ref 80, .int 0, .int 0]) (rest := []) (r1 := (none, (zS I4 J tg))) rfl (Nat.le_of_ble_eq_true rfl) c5 ?_
  refine Runs.as (c' := (20, [.ref 79, .int a1, .int a2, vU], [], (zS I4 J tg))) rfl ?_
  refine Runs.sN 5 (c' := (27, [.ref 79, .int a1, .int a2, .int 0], [], (zS (up2 I4 79 8 0) J tg))) rfl ?_
  exact h
theorem sg_1_27 {L d : Nat} {xs : Nat → Int32} (I : Nat → Nat → Int32) (J : Nat → Nat → Int64) (tg : Option Nat) (x1 : Int32) (x2 : Int32) (x3 : Int32) {r : Option Value × SS} (h : ((if 6 ≤ x3 then (∃ (I1 : Nat → Nat → Int32), Runs (GW L xs) d 2 (0, [.ref 79, .int 0, .int 0, .int 0, vU, vU], [], (zS (up2 I 79 10 (-1)) J tg)) (none, (zS I1 J tg)) ∧ r = (none, (zS I1 J tg))) else (¬ (x3 < 0 ∨ 6 ≤ (x3).toNatClampNeg) ∧ (if (I 8 ((x3).toNatClampNeg)) ≤ 0 then (Runs (GW L xs) (d + 1) 1 (27, [.ref 79, .int x1, .int x2, .int (x3 + 1)], [], (zS I J tg)) r) else (¬ (x3 < 0 ∨ 6 ≤ (x3).toNatClampNeg) ∧ Runs (GW L xs) (d + 1) 1 (27, [.ref 79, .int x1, .int x2, .int (x3 + 1)], [], (zS (up2 I 79 8 ((I 79 8) ||| (I 9 ((x3).toNatClampNeg)))) J tg)) r)))))) : Runs (GW L xs) (d + 1) 1 (27, [.ref 79, .int x1, .int x2, .int x3], [], (zS I J tg)) r := by
  refine Runs.sN 2 (c' := (30, [.ref 79, .int x1, .int x2, .int x3], [.int 6, .int x3], (zS I J tg))) rfl ?_
  by_cases c2 : 6 ≤ x3
  · rw [if_pos c2] at h
    refine Runs.brT (P := 6 ≤ x3) (a := 69) (b := 33) (L := [.ref 79, .int x1, .int x2, .int x3]) (S := []) (z := (zS I J tg)) rfl c2 ?_
    refine Runs.sN 7 (c' := (78, [.ref 79, .int x1, .int x2, .int x3], [.int 0, .int 0, .int 0, .ref 79], (zS (up2 I 79 10 (-1)) J tg))) rfl ?_
    obtain ⟨I1, c3, h⟩ := h
    refine Runs.cl (cm := 2) (as := [.ref 79, .int 0, .int 0, .int 0]) (rest := []) (r1 := (none, (zS I1 J tg))) rfl (Nat.le_of_ble_eq_true rfl) c3 ?_
    refine Runs.as (c' := (81, [.ref 79, .int x1, .int x2, .int x3], [], (zS I1 J tg))) rfl ?_
    subst h
    exact Runs.rt rfl
  · rw [if_neg c2] at h
    refine Runs.brF (P := 6 ≤ x3) (a := 69) (b := 33) (L := [.ref 79, .int x1, .int x2, .int x3]) (S := []) (z := (zS I J tg)) rfl c2 ?_
    refine Runs.sN 4 (c' := (41, [.ref 79, .int x1, .int x2, .int x3], [.int x3, .ref 8], (zS I J tg))) rfl ?_
    obtain ⟨c4, h⟩ := h
    refine Runs.to (c' := (42, [.ref 79, .int x1, .int x2, .int x3], [.int (I 8 ((x3).toNatClampNeg))], (zS I J tg))) (Runs.ild rfl (show (8 : Nat) < 114 by decide) rfl c4) ?_
    by_cases c5 : (I 8 ((x3).toNatClampNeg)) ≤ 0
    · rw [if_pos c5] at h
      refine Runs.brT (P := (I 8 ((x3).toNatClampNeg)) ≤ 0) (a := 63) (b := 45) (L := [.ref 79, .int x1, .int x2, .int x3]) (S := []) (z := (zS I J tg)) rfl c5 ?_
      refine Runs.sN 2 (c' := (27, [.ref 79, .int x1, .int x2, .int (x3 + 1)], [], (zS I J tg))) rfl ?_
      exact h
    · rw [if_neg c5] at h
      refine Runs.brF (P := (I 8 ((x3).toNatClampNeg)) ≤ 0) (a := 63) (b := 45) (L := [.ref 79, .int x1, .int x2, .int x3]) (S := []) (z := (zS I J tg)) rfl c5 ?_
      refine Runs.sN 7 (c' := (58, [.ref 79, .int x1, .int x2, .int x3], [.int x3, .ref 9, .int (I 79 8), .ref 79], (zS I J tg))) rfl ?_
      obtain ⟨c6, h⟩ := h
      refine Runs.to (c' := (59, [.ref 79, .int x1, .int x2, .int x3], [.int (I 9 ((x3).toNatClampNeg)), .int (I 79 8), .ref 79], (zS I J tg))) (Runs.ild rfl (show (9 : Nat) < 114 by decide) rfl c6) ?_
      refine Runs.sN 4 (c' := (27, [.ref 79, .int x1, .int x2, .int (x3 + 1)], [], (zS (up2 I 79 8 ((I 79 8) ||| (I 9 ((x3).toNatClampNeg)))) J tg))) rfl ?_
      exact h
-- X0_tryMade 
theorem sg_2 {L d : Nat} {xs : Nat → Int32} (I : Nat → Nat → Int32) (J : Nat → Nat → Int64) (tg : Option Nat) (a1 : Int32) (a2 : Int32) (a3 : Int32) {r : Option Value × SS} (h : (∃ (v13 : Int32) (I14 : Nat → Nat → Int32), Runs (GW L xs) d 99 (0, [.ref 75], [], (zS I J tg)) ((some (.int v13)), (zS I14 J tg)) ∧ (if v13 = 0 then ((if a3 < 6 then (Runs (GW L xs) (d + 1) 2 (26, [.ref 79, .int a1, .int a2, .int a3, .int a2, vU], [], (zS I14 J tg)) r) else (r = (none, (zS I14 J tg))))) else (∃ (I15 : Nat → Nat → Int32), Runs (GW L xs) d 5 (0, [.ref 79, .int a1, .int a3, vU, vU, vU], [], (zS I14 J tg)) (none, (zS I15 J tg)) ∧ (if a3 < 6 then (Runs (GW L xs) (d + 1) 2 (26, [.ref 79, .int a1, .int a2, .int a3, .int a2, vU], [], (zS I15 J tg)) r) else (r = (none, (zS I15 J tg)))))))) : Runs (GW L xs) (d + 1) 2 (0, [.ref 79, .int a1, .int a2, .int a3, vU, vU], [], (zS I J tg)) r := by
  refine Runs.sN 2 (c' := (4, [.ref 79, .int a1, .int a2, .int a3, vU, vU], [.ref 75], (zS I J tg))) rfl ?_
  obtain ⟨v13, I14, c16, h⟩ := h
  refine Runs.cl (cm := 99) (as := [.ref 75]) (rest := []) (r1 := ((some (.int v13)), (zS I14 J tg))) rfl (Nat.le_of_ble_eq_true rfl) c16 ?_
  refine Runs.as (c' := (7, [.ref 79, .int a1, .int a2, .int a3, vU, vU], [.int v13], (zS I14 J tg))) rfl ?_
  by_cases c17 : v13 = 0
  · rw [if_pos c17] at h
    refine Runs.brT (P := v13 = 0) (a := 16) (b := 10) (L := [.ref 79, .int a1, .int a2, .int a3, vU, vU]) (S := []) (z := (zS I14 J tg)) rfl c17 ?_
    refine Runs.sN 2 (c' := (19, [.ref 79, .int a1, .int a2, .int a3, vU, vU], [.int 6, .int a3], (zS I14 J tg))) rfl ?_
    by_cases c18 : a3 < 6
    · rw [if_pos c18] at h
      refine Runs.brT (P := a3 < 6) (a := 23) (b := 22) (L := [.ref 79, .int a1, .int a2, .int a3, vU, vU]) (S := []) (z := (zS I14 J tg)) rfl c18 ?_
      refine Runs.sN 2 (c' := (26, [.ref 79, .int a1, .int a2, .int a3, .int a2, vU], [], (zS I14 J tg))) rfl ?_
      exact h
    · rw [if_neg c18] at h
      refine Runs.brF (P := a3 < 6) (a := 23) (b := 22) (L := [.ref 79, .int a1, .int a2, .int a3, vU, vU]) (S := []) (z := (zS I14 J tg)) rfl c18 ?_
      subst h
      exact Runs.rt rfl
  · rw [if_neg c17] at h
    refine Runs.brF (P := v13 = 0) (a := 16) (b := 10) (L := [.ref 79, .int a1, .int a2, .int a3, vU, vU]) (S := []) (z := (zS I14 J tg)) rfl c17 ?_
    refine Runs.sN 3 (c' := (13, [.ref 79, .int a1, .int a2, .int a3, vU, vU], [.int a3, .int a1, .ref 79], (zS I14 J tg))) rfl ?_
    obtain ⟨I15, c19, h⟩ := h
    refine Runs.cl (cm := 5) (as := [.ref 79, .int a1, .int a3]) (rest := []) (r1 := (none, (zS I15 J tg))) rfl (Nat.le_of_ble_eq_true rfl) c19 ?_
    refine Runs.as (c' := (16, [.ref 79, .int a1, .int a2, .int a3, vU, vU], [], (zS I15 J tg))) rfl ?_
    refine Runs.sN 2 (c' := (19, [.ref 79, .int a1, .int a2, .int a3, vU, vU], [.int 6, .int a3], (zS I15 J tg))) rfl ?_
    by_cases c20 : a3 < 6
    · rw [if_pos c20] at h
      refine Runs.brT (P := a3 < 6) (a := 23) (b := 22) (L := [.ref 79, .int a1, .int a2, .int a3, vU, vU]) (S := []) (z := (zS I15 J tg)) rfl c20 ?_
      refine Runs.sN 2 (c' := (26, [.ref 79, .int a1, .int a2, .int a3, .int a2, vU], [], (zS I15 J tg))) rfl ?_
      exact h
    · rw [if_neg c20] at h
      refine Runs.brF (P := a3 < 6) (a := 23) (b := 22) (L := [.ref 79, .int a1, .int a2, .int a3, vU, vU]) (S := []) (z := (zS I15 J tg)) rfl c20 ?_
      subst h
      exact Runs.rt rfl
theorem sg_2_26 {L d : Nat} {xs : Nat → Int32} (I : Nat → Nat → Int32) (J : Nat → Nat → Int64) (tg : Option Nat) (x1 : Int32) (x2 : Int32) (x3 : Int32) (x4 : Int32) {r : Option Value × SS} (h : ((if (I 18 2) ≤ x4 then (r = (none, (zS I J tg))) else (¬ (x4 < 0 ∨ 10 ≤ (x4).toNatClampNeg) ∧ ∃ (I1 : Nat → Nat → Int32), Runs (GW L xs) d 4 (0, [.ref 79, .int (I 19 ((x4).toNatClampNeg)), .int x3, vU], [], (zS I J tg)) (none, (zS I1 J tg)) ∧ ∃ (v2 : Int32) (I3 : Nat → Nat → Int32), Runs (GW L xs) d 170 (0, [.int (I 19 ((x4).toNatClampNeg))], [], (zS I1 J tg)) ((some (.int v2)), (zS I3 J tg)) ∧ ¬ (v2 < 0 ∨ 12 ≤ (v2).toNatClampNeg) ∧ ¬ (v2 < 0 ∨ 12 ≤ (v2).toNatClampNeg) ∧ ∃ (I4 : Nat → Nat → Int32), Runs (GW L xs) d 2 (0, [.ref 79, .int (x1 ||| (1 <<< (x4 &&& 31))), .int (x4 + 1), .int (x3 + 1), vU, vU], [], (zS (up2 (up2 I3 78 ((v2).toNatClampNeg) ((I3 78 ((v2).toNatClampNeg)) + 1)) 78 5 (((up2 I3 78 ((v2).toNatClampNeg) ((I3 78 ((v2).toNatClampNeg)) + 1)) 78 5) + 1)) J tg)) (none, (zS I4 J tg)) ∧ ∃ (v5 : Int32) (I6 : Nat → Nat → Int32), Runs (GW L xs) d 170 (0, [.int (I 19 ((x4).toNatClampNeg))], [], (zS I4 J tg)) ((some (.int v5)), (zS I6 J tg)) ∧ ¬ (v5 < 0 ∨ 12 ≤ (v5).toNatClampNeg) ∧ ¬ (v5 < 0 ∨ 12 ≤ (v5).toNatClampNeg) ∧ Runs (GW L xs) (d + 1) 2 (26, [.ref 79, .int x1, .int x2, .int x3, .int (x4 + 1), vU], [], (zS (up2 (up2 I6 78 ((v5).toNatClampNeg) ((I6 78 ((v5).toNatClampNeg)) - 1)) 78 5 (((up2 I6 78 ((v5).toNatClampNeg) ((I6 78 ((v5).toNatClampNeg)) - 1)) 78 5) - 1)) J tg)) r)))) : Runs (GW L xs) (d + 1) 2 (26, [.ref 79, .int x1, .int x2, .int x3, .int x4, vU], [], (zS I J tg)) r := by
  refine Runs.sN 4 (c' := (35, [.ref 79, .int x1, .int x2, .int x3, .int x4, vU], [.int (I 18 2), .int x4], (zS I J tg))) rfl ?_
  by_cases c7 : (I 18 2) ≤ x4
  · rw [if_pos c7] at h
    refine Runs.brT (P := (I 18 2) ≤ x4) (a := 140) (b := 38) (L := [.ref 79, .int x1, .int x2, .int x3, .int x4, vU]) (S := []) (z := (zS I J tg)) rfl c7 ?_
    subst h
    exact Runs.rt rfl
  · rw [if_neg c7] at h
    refine Runs.brF (P := (I 18 2) ≤ x4) (a := 140) (b := 38) (L := [.ref 79, .int x1, .int x2, .int x3, .int x4, vU]) (S := []) (z := (zS I J tg)) rfl c7 ?_
    refine Runs.sN 4 (c' := (47, [.ref 79, .int x1, .int x2, .int x3, .int x4, vU], [.int x4, .ref 19], (zS I J tg))) rfl ?_
    obtain ⟨c8, h⟩ := h
    refine Runs.to (c' := (48, [.ref 79, .int x1, .int x2, .int x3, .int x4, vU], [.int (I 19 ((x4).toNatClampNeg))], (zS I J tg))) (Runs.ild rfl (show (19 : Nat) < 114 by decide) rfl c8) ?_
    refine Runs.sN 4 (c' := (54, [.ref 79, .int x1, .int x2, .int x3, .int x4, .int (I 19 ((x4).toNatClampNeg))], [.int x3, .int (I 19 ((x4).toNatClampNeg)), .ref 79], (zS I J tg))) rfl ?_
    obtain ⟨I1, c9, h⟩ := h
    refine Runs.cl (cm := 4) (as := [.ref 79, .int (I 19 ((x4).toNatClampNeg)), .int x3]) (rest := []) (r1 := (none, (zS I1 J tg))) rfl (Nat.le_of_ble_eq_true rfl) c9 ?_
    refine Runs.as (c' := (57, [.ref 79, .int x1, .int x2, .int x3, .int x4, .int (I 19 ((x4).toNatClampNeg))], [], (zS I1 J tg))) rfl ?_
    refine Runs.sN 4 (c' := (66, [.ref 79, .int x1, .int x2, .int x3, .int x4, .int (I 19 ((x4).toNatClampNeg))], [.int (I 19 ((x4).toNatClampNeg)), .ref 78], (zS I1 J tg))) rfl ?_
    obtain ⟨v2, I3, c10, h⟩ := h
    refine Runs.cl (cm := 170) (as := [.int (I 19 ((x4).toNatClampNeg))]) (rest := [.ref 78]) (r1 := ((some (.int v2)), (zS I3 J tg))) rfl (Nat.le_of_ble_eq_true rfl) c10 ?_
    refine Runs.as (c' := (69, [.ref 79, .int x1, .int x2, .int x3, .int x4, .int (I 19 ((x4).toNatClampNeg))], [.int v2, .ref 78], (zS I3 J tg))) rfl ?_
    refine Runs.sN 1 (c' := (70, [.ref 79, .int x1, .int x2, .int x3, .int x4, .int (I 19 ((x4).toNatClampNeg))], [.int v2, .ref 78, .int v2, .ref 78], (zS I3 J tg))) rfl ?_
    obtain ⟨c11, h⟩ := h
    refine Runs.to (c' := (71, [.ref 79, .int x1, .int x2, .int x3, .int x4, .int (I 19 ((x4).toNatClampNeg))], [.int (I3 78 ((v2).toNatClampNeg)), .int v2, .ref 78], (zS I3 J tg))) (Runs.ild rfl (show (78 : Nat) < 114 by decide) rfl c11) ?_
    refine Runs.sN 2 (c' := (73, [.ref 79, .int x1, .int x2, .int x3, .int x4, .int (I 19 ((x4).toNatClampNeg))], [.int ((I3 78 ((v2).toNatClampNeg)) + 1), .int v2, .ref 78], (zS I3 J tg))) rfl ?_
    obtain ⟨c12, h⟩ := h
    refine Runs.to (c' := (74, [.ref 79, .int x1, .int x2, .int x3, .int x4, .int (I 19 ((x4).toNatClampNeg))], [], (zS (up2 I3 78 ((v2).toNatClampNeg) ((I3 78 ((v2).toNatClampNeg)) + 1)) J tg))) (Runs.ist rfl (show (78 : Nat) < 114 by decide) rfl c12) ?_
    refine Runs.sN 21 (c' := (101, [.ref 79, .int x1, .int x2, .int x3, .int x4, .int (I 19 ((x4).toNatClampNeg))], [.int (x3 + 1), .int (x4 + 1), .int (x1 ||| (1 <<< (x4 &&& 31))), .ref 79], (zS (up2 (up2 I3 78 ((v2).toNatClampNeg) ((I3 78 ((v2).toNatClampNeg)) + 1)) 78 5 (((up2 I3 78 ((v2).toNatClampNeg) ((I3 78 ((v2).toNatClampNeg)) + 1)) 78 5) + 1)) J tg))) rfl ?_
    obtain ⟨I4, c13, h⟩ := h
    refine Runs.cl (cm := 2) (as := [.ref 79, .int (x1 ||| (1 <<< (x4 &&& 31))), .int (x4 + 1), .int (x3 + 1)]) (rest := []) (r1 := (none, (zS I4 J tg))) rfl (Nat.le_of_ble_eq_true rfl) c13 ?_
    refine Runs.as (c' := (104, [.ref 79, .int x1, .int x2, .int x3, .int x4, .int (I 19 ((x4).toNatClampNeg))], [], (zS I4 J tg))) rfl ?_
    refine Runs.sN 4 (c' := (113, [.ref 79, .int x1, .int x2, .int x3, .int x4, .int (I 19 ((x4).toNatClampNeg))], [.int (I 19 ((x4).toNatClampNeg)), .ref 78], (zS I4 J tg))) rfl ?_
    obtain ⟨v5, I6, c14, h⟩ := h
    refine Runs.cl (cm := 170) (as := [.int (I 19 ((x4).toNatClampNeg))]) (rest := [.ref 78]) (r1 := ((some (.int v5)), (zS I6 J tg))) rfl (Nat.le_of_ble_eq_true rfl) c14 ?_
    refine Runs.as (c' := (116, [.ref 79, .int x1, .int x2, .int x3, .int x4, .int (I 19 ((x4).toNatClampNeg))], [.int v5, .ref 78], (zS I6 J tg))) rfl ?_
    refine Runs.sN 1 (c' := (117, [.ref 79, .int x1, .int x2, .int x3, .int x4, .int (I 19 ((x4).toNatClampNeg))], [.int v5, .ref 78, .int v5, .ref 78], (zS I6 J tg))) rfl ?_
    obtain ⟨c15, h⟩ := h
    refine Runs.to (c' := (118, [.ref 79, .int x1, .int x2, .int x3, .int x4, .int (I 19 ((x4).toNatClampNeg))], [.int (I6 78 ((v5).toNatClampNeg)), .int v5, .ref 78], (zS I6 J tg))) (Runs.ild rfl (show (78 : Nat) < 114 by decide) rfl c15) ?_
    refine Runs.sN 2 (c' := (120, [.ref 79, .int x1, .int x2, .int x3, .int x4, .int (I 19 ((x4).toNatClampNeg))], [.int ((I6 78 ((v5).toNatClampNeg)) - 1), .int v5, .ref 78], (zS I6 J tg))) rfl ?_
    obtain ⟨c16, h⟩ := h
    refine Runs.to (c' := (121, [.ref 79, .int x1, .int x2, .int x3, .int x4, .int (I 19 ((x4).toNatClampNeg))], [], (zS (up2 I6 78 ((v5).toNatClampNeg) ((I6 78 ((v5).toNatClampNeg)) - 1)) J tg))) (Runs.ist rfl (show (78 : Nat) < 114 by decide) rfl c16) ?_
    refine Runs.sN 11 (c' := (26, [.ref 79, .int x1, .int x2, .int x3, .int (x4 + 1), .int (I 19 ((x4).toNatClampNeg))], [], (zS (up2 (up2 I6 78 ((v5).toNatClampNeg) ((I6 78 ((v5).toNatClampNeg)) - 1)) 78 5 (((up2 I6 78 ((v5).toNatClampNeg) ((I6 78 ((v5).toNatClampNeg)) - 1)) 78 5) - 1)) J tg))) rfl ?_
    exact Runs.weak (L := [.ref 79, .int x1, .int x2, .int x3, .int (x4 + 1), vU]) (Lle.k (Lle.k (Lle.k (Lle.k (Lle.k (Lle.u Lle.n)))))) h
-- X0_rowAt 
theorem sg_3 {L d : Nat} {xs : Nat → Int32} (I : Nat → Nat → Int32) (J : Nat → Nat → Int64) (tg : Option Nat) (a1 : Int32) (a2 : Int32) {r : Option Value × SS} (h : (r = (some (.int (((a1 * 12) + a2) * 64)), (zS I J tg)))) : Runs (GW L xs) d 3 (0, [.int a1, .int a2], [], (zS I J tg)) r := by
  refine Runs.sN 7 (c' := (9, [.int a1, .int a2], [.int (((a1 * 12) + a2) * 64)], (zS I J tg))) rfl ?_
  subst h
  exact Runs.rt rfl
-- X0_addToRows 
theorem sg_4 {L d : Nat} {xs : Nat → Int32} (I : Nat → Nat → Int32) (J : Nat → Nat → Int64) (tg : Option Nat) (a1 : Int32) (a2 : Int32) {r : Option Value × SS} (h : (Runs (GW L xs) (d + 1) 4 (2, [.ref 79, .int a1, .int a2, .int 0], [], (zS I J tg)) r)) : Runs (GW L xs) (d + 1) 4 (0, [.ref 79, .int a1, .int a2, vU], [], (zS I J tg)) r := by
  refine Runs.sN 2 (c' := (2, [.ref 79, .int a1, .int a2, .int 0], [], (zS I J tg))) rfl ?_
  exact h
theorem sg_4_2 {L d : Nat} {xs : Nat → Int32} (I : Nat → Nat → Int32) (J : Nat → Nat → Int64) (tg : Option Nat) (x1 : Int32) (x2 : Int32) (x3 : Int32) {r : Option Value × SS} (h : ((if (I 1 1) ≤ x3 then (r = (none, (zS I J tg))) else ((if (((I 79 8) >>> (x3 &&& 31)) &&& 1) = 0 then (Runs (GW L xs) (d + 1) 4 (2, [.ref 79, .int x1, .int x2, .int (x3 + 1)], [], (zS I J tg)) r) else (∃ (v1 : Int32) (I2 : Nat → Nat → Int32), Runs (GW L xs) d 3 (0, [.int x2, .int x3], [], (zS I J tg)) ((some (.int v1)), (zS I2 J tg)) ∧ ∃ (v3 : Int32) (I4 : Nat → Nat → Int32), Runs (GW L xs) d 3 (0, [.int (x2 + 1), .int x3], [], (zS I2 J tg)) ((some (.int v3)), (zS I4 J tg)) ∧ ∃ (I5 : Nat → Nat → Int32), Runs (GW L xs) d 66 (0, [.ref 70, .int x1, .int (12 + x3), .ref 81, .int v1, .int v3, vU, vU, vU, vU], [], (zS I4 J tg)) (none, (zS I5 J tg)) ∧ Runs (GW L xs) (d + 1) 4 (2, [.ref 79, .int x1, .int x2, .int (x3 + 1)], [], (zS I5 J tg)) r)))))) : Runs (GW L xs) (d + 1) 4 (2, [.ref 79, .int x1, .int x2, .int x3], [], (zS I J tg)) r := by
  refine Runs.sN 4 (c' := (10, [.ref 79, .int x1, .int x2, .int x3], [.int (I 1 1), .int x3], (zS I J tg))) rfl ?_
  by_cases c6 : (I 1 1) ≤ x3
  · rw [if_pos c6] at h
    refine Runs.brT (P := (I 1 1) ≤ x3) (a := 58) (b := 13) (L := [.ref 79, .int x1, .int x2, .int x3]) (S := []) (z := (zS I J tg)) rfl c6 ?_
    subst h
    exact Runs.rt rfl
  · rw [if_neg c6] at h
    refine Runs.brF (P := (I 1 1) ≤ x3) (a := 58) (b := 13) (L := [.ref 79, .int x1, .int x2, .int x3]) (S := []) (z := (zS I J tg)) rfl c6 ?_
    refine Runs.sN 6 (c' := (21, [.ref 79, .int x1, .int x2, .int x3], [.int (((I 79 8) >>> (x3 &&& 31)) &&& 1)], (zS I J tg))) rfl ?_
    by_cases c7 : (((I 79 8) >>> (x3 &&& 31)) &&& 1) = 0
    · rw [if_pos c7] at h
      refine Runs.brT (P := (((I 79 8) >>> (x3 &&& 31)) &&& 1) = 0) (a := 52) (b := 24) (L := [.ref 79, .int x1, .int x2, .int x3]) (S := []) (z := (zS I J tg)) rfl c7 ?_
      refine Runs.sN 2 (c' := (2, [.ref 79, .int x1, .int x2, .int (x3 + 1)], [], (zS I J tg))) rfl ?_
      exact h
    · rw [if_neg c7] at h
      refine Runs.brF (P := (((I 79 8) >>> (x3 &&& 31)) &&& 1) = 0) (a := 52) (b := 24) (L := [.ref 79, .int x1, .int x2, .int x3]) (S := []) (z := (zS I J tg)) rfl c7 ?_
      refine Runs.sN 10 (c' := (39, [.ref 79, .int x1, .int x2, .int x3], [.int x3, .int x2, .ref 81, .int (12 + x3), .int x1, .ref 70], (zS I J tg))) rfl ?_
      obtain ⟨v1, I2, c8, h⟩ := h
      refine Runs.cl (cm := 3) (as := [.int x2, .int x3]) (rest := [.ref 81, .int (12 + x3), .int x1, .ref 70]) (r1 := ((some (.int v1)), (zS I2 J tg))) rfl (Nat.le_of_ble_eq_true rfl) c8 ?_
      refine Runs.as (c' := (42, [.ref 79, .int x1, .int x2, .int x3], [.int v1, .ref 81, .int (12 + x3), .int x1, .ref 70], (zS I2 J tg))) rfl ?_
      refine Runs.sN 4 (c' := (46, [.ref 79, .int x1, .int x2, .int x3], [.int x3, .int (x2 + 1), .int v1, .ref 81, .int (12 + x3), .int x1, .ref 70], (zS I2 J tg))) rfl ?_
      obtain ⟨v3, I4, c9, h⟩ := h
      refine Runs.cl (cm := 3) (as := [.int (x2 + 1), .int x3]) (rest := [.int v1, .ref 81, .int (12 + x3), .int x1, .ref 70]) (r1 := ((some (.int v3)), (zS I4 J tg))) rfl (Nat.le_of_ble_eq_true rfl) c9 ?_
      refine Runs.as (c' := (49, [.ref 79, .int x1, .int x2, .int x3], [.int v3, .int v1, .ref 81, .int (12 + x3), .int x1, .ref 70], (zS I4 J tg))) rfl ?_
      obtain ⟨I5, c10, h⟩ := h
      refine Runs.cl (cm := 66) (as := [.ref 70, .int x1, .int (12 + x3), .ref 81, .int v1, .int v3]) (rest := []) (r1 := (none, (zS I5 J tg))) rfl (Nat.le_of_ble_eq_true rfl) c10 ?_
      refine Runs.as (c' := (52, [.ref 79, .int x1, .int x2, .int x3], [], (zS I5 J tg))) rfl ?_
      refine Runs.sN 2 (c' := (2, [.ref 79, .int x1, .int x2, .int (x3 + 1)], [], (zS I5 J tg))) rfl ?_
      exact h
-- X0_weighMade 
theorem sg_5 {L d : Nat} {xs : Nat → Int32} (I : Nat → Nat → Int32) (J : Nat → Nat → Int64) (tg : Option Nat) (a1 : Int32) (a2 : Int32) {r : Option Value × SS} (h : (Runs (GW L xs) (d + 1) 5 (2, [.ref 79, .int a1, .int a2, .int 0, vU, vU], [], (zS I J tg)) r)) : Runs (GW L xs) (d + 1) 5 (0, [.ref 79, .int a1, .int a2, vU, vU, vU], [], (zS I J tg)) r := by
  refine Runs.sN 2 (c' := (2, [.ref 79, .int a1, .int a2, .int 0, vU, vU], [], (zS I J tg))) rfl ?_
  exact h
theorem sg_5_2 {L d : Nat} {xs : Nat → Int32} (I : Nat → Nat → Int32) (J : Nat → Nat → Int64) (tg : Option Nat) (x1 : Int32) (x2 : Int32) (x3 : Int32) {r : Option Value × SS} (h : ((if (I 1 1) ≤ x3 then (∃ (I1 : Nat → Nat → Int32), Runs (GW L xs) d 98 (0, [.ref 75], [], (zS I J tg)) (none, (zS I1 J tg)) ∧ ∃ (v2 : Int32) (I3 : Nat → Nat → Int32), Runs (GW L xs) d 105 (0, [.ref 75, vU, vU], [], (zS I1 J tg)) ((some (.int v2)), (zS I3 J tg)) ∧ (if (I3 79 10) = (-1) then (r = (none, (zS (up2 (up2 (up2 I3 79 10 x1) 79 11 v2) 79 9 x2) J tg))) else ((if v2 < (I3 79 11) then (r = (none, (zS (up2 (up2 (up2 I3 79 10 x1) 79 11 v2) 79 9 x2) J tg))) else ((if v2 = (I3 79 11) then (∃ (v4 : Int32) (I5 : Nat → Nat → Int32), Runs (GW L xs) d 6 (0, [.ref 79, .int x1, .int x2], [], (zS I3 J tg)) ((some (.int v4)), (zS I5 J tg)) ∧ (if v4 = 0 then (r = (none, (zS I5 J tg))) else (r = (none, (zS (up2 (up2 (up2 I5 79 10 x1) 79 11 v2) 79 9 x2) J tg))))) else (r = (none, (zS I3 J tg))))))))) else ((if (((I 79 8) >>> (x3 &&& 31)) &&& 1) = 0 then (Runs (GW L xs) (d + 1) 5 (2, [.ref 79, .int x1, .int x2, .int (x3 + 1), vU, vU], [], (zS I J tg)) r) else (∃ (v6 : Int32) (I7 : Nat → Nat → Int32), Runs (GW L xs) d 3 (0, [.int x2, .int x3], [], (zS I J tg)) ((some (.int v6)), (zS I7 J tg)) ∧ ∃ (v8 : Int32) (I9 : Nat → Nat → Int32), Runs (GW L xs) d 65 (0, [.ref 70, .int (12 + x3)], [], (zS I7 J tg)) ((some (.int v8)), (zS I9 J tg)) ∧ ¬ ((v6 + v8) < 0 ∨ 5376 ≤ (v6 + v8).toNatClampNeg) ∧ ¬ ((I9 79 7) < 0 ∨ 24 ≤ (I9 79 7).toNatClampNeg) ∧ ∃ (v10 : Int32) (I11 : Nat → Nat → Int32), Runs (GW L xs) d 64 (0, [.ref 70, .int x2, .int (I9 4 ((I9 79 7).toNatClampNeg)), .int (12 + x3), .int (I9 81 ((v6 + v8).toNatClampNeg)), vU], [], (zS I9 J tg)) ((some (.int v10)), (zS I11 J tg)) ∧ ∃ (I12 : Nat → Nat → Int32), Runs (GW L xs) d 96 (0, [.ref 75, .int x3, .int v10], [], (zS I11 J tg)) (none, (zS I12 J tg)) ∧ Runs (GW L xs) (d + 1) 5 (2, [.ref 79, .int x1, .int x2, .int (x3 + 1), vU, vU], [], (zS I12 J tg)) r)))))) : Runs (GW L xs) (d + 1) 5 (2, [.ref 79, .int x1, .int x2, .int x3, vU, vU], [], (zS I J tg)) r := by
  refine Runs.sN 4 (c' := (10, [.ref 79, .int x1, .int x2, .int x3, vU, vU], [.int (I 1 1), .int x3], (zS I J tg))) rfl ?_
  by_cases c13 : (I 1 1) ≤ x3
  · rw [if_pos c13] at h
    refine Runs.brT (P := (I 1 1) ≤ x3) (a := 90) (b := 13) (L := [.ref 79, .int x1, .int x2, .int x3, vU, vU]) (S := []) (z := (zS I J tg)) rfl c13 ?_
    refine Runs.sN 2 (c' := (94, [.ref 79, .int x1, .int x2, .int x3, vU, vU], [.ref 75], (zS I J tg))) rfl ?_
    obtain ⟨I1, c14, h⟩ := h
    refine Runs.cl (cm := 98) (as := [.ref 75]) (rest := []) (r1 := (none, (zS I1 J tg))) rfl (Nat.le_of_ble_eq_true rfl) c14 ?_
    refine Runs.as (c' := (97, [.ref 79, .int x1, .int x2, .int x3, vU, vU], [], (zS I1 J tg))) rfl ?_
    refine Runs.sN 2 (c' := (101, [.ref 79, .int x1, .int x2, .int x3, vU, vU], [.ref 75], (zS I1 J tg))) rfl ?_
    obtain ⟨v2, I3, c15, h⟩ := h
    refine Runs.cl (cm := 105) (as := [.ref 75]) (rest := []) (r1 := ((some (.int v2)), (zS I3 J tg))) rfl (Nat.le_of_ble_eq_true rfl) c15 ?_
    refine Runs.as (c' := (104, [.ref 79, .int x1, .int x2, .int x3, vU, vU], [.int v2], (zS I3 J tg))) rfl ?_
    refine Runs.sN 4 (c' := (110, [.ref 79, .int x1, .int x2, .int v2, vU, vU], [.int (-1), .int (I3 79 10)], (zS I3 J tg))) rfl ?_
    by_cases c16 : (I3 79 10) = (-1)
    · rw [if_pos c16] at h
      refine Runs.brT (P := (I3 79 10) = (-1)) (a := 138) (b := 113) (L := [.ref 79, .int x1, .int x2, .int v2, vU, vU]) (S := []) (z := (zS I3 J tg)) rfl c16 ?_
      refine Runs.sN 9 (c' := (153, [.ref 79, .int x1, .int x2, .int v2, vU, vU], [], (zS (up2 (up2 (up2 I3 79 10 x1) 79 11 v2) 79 9 x2) J tg))) rfl ?_
      subst h
      exact Runs.rt rfl
    · rw [if_neg c16] at h
      refine Runs.brF (P := (I3 79 10) = (-1)) (a := 138) (b := 113) (L := [.ref 79, .int x1, .int x2, .int v2, vU, vU]) (S := []) (z := (zS I3 J tg)) rfl c16 ?_
      refine Runs.sN 3 (c' := (118, [.ref 79, .int x1, .int x2, .int v2, vU, vU], [.int (I3 79 11), .int v2], (zS I3 J tg))) rfl ?_
      by_cases c17 : v2 < (I3 79 11)
      · rw [if_pos c17] at h
        refine Runs.brT (P := v2 < (I3 79 11)) (a := 138) (b := 121) (L := [.ref 79, .int x1, .int x2, .int v2, vU, vU]) (S := []) (z := (zS I3 J tg)) rfl c17 ?_
        refine Runs.sN 9 (c' := (153, [.ref 79, .int x1, .int x2, .int v2, vU, vU], [], (zS (up2 (up2 (up2 I3 79 10 x1) 79 11 v2) 79 9 x2) J tg))) rfl ?_
        subst h
        exact Runs.rt rfl
      · rw [if_neg c17] at h
        refine Runs.brF (P := v2 < (I3 79 11)) (a := 138) (b := 121) (L := [.ref 79, .int x1, .int x2, .int v2, vU, vU]) (S := []) (z := (zS I3 J tg)) rfl c17 ?_
        refine Runs.sN 3 (c' := (126, [.ref 79, .int x1, .int x2, .int v2, vU, vU], [.int (I3 79 11), .int v2], (zS I3 J tg))) rfl ?_
        by_cases c18 : v2 = (I3 79 11)
        · rw [if_pos c18] at h
          refine Runs.brT (P := v2 = (I3 79 11)) (a := 129) (b := 153) (L := [.ref 79, .int x1, .int x2, .int v2, vU, vU]) (S := []) (z := (zS I3 J tg)) rfl c18 ?_
          refine Runs.sN 3 (c' := (132, [.ref 79, .int x1, .int x2, .int v2, vU, vU], [.int x2, .int x1, .ref 79], (zS I3 J tg))) rfl ?_
          obtain ⟨v4, I5, c19, h⟩ := h
          refine Runs.cl (cm := 6) (as := [.ref 79, .int x1, .int x2]) (rest := []) (r1 := ((some (.int v4)), (zS I5 J tg))) rfl (Nat.le_of_ble_eq_true rfl) c19 ?_
          refine Runs.as (c' := (135, [.ref 79, .int x1, .int x2, .int v2, vU, vU], [.int v4], (zS I5 J tg))) rfl ?_
          by_cases c20 : v4 = 0
          · rw [if_pos c20] at h
            refine Runs.brT (P := v4 = 0) (a := 153) (b := 138) (L := [.ref 79, .int x1, .int x2, .int v2, vU, vU]) (S := []) (z := (zS I5 J tg)) rfl c20 ?_
            subst h
            exact Runs.rt rfl
          · rw [if_neg c20] at h
            refine Runs.brF (P := v4 = 0) (a := 153) (b := 138) (L := [.ref 79, .int x1, .int x2, .int v2, vU, vU]) (S := []) (z := (zS I5 J tg)) rfl c20 ?_
            refine Runs.sN 9 (c' := (153, [.ref 79, .int x1, .int x2, .int v2, vU, vU], [], (zS (up2 (up2 (up2 I5 79 10 x1) 79 11 v2) 79 9 x2) J tg))) rfl ?_
            subst h
            exact Runs.rt rfl
        · rw [if_neg c18] at h
          refine Runs.brF (P := v2 = (I3 79 11)) (a := 129) (b := 153) (L := [.ref 79, .int x1, .int x2, .int v2, vU, vU]) (S := []) (z := (zS I3 J tg)) rfl c18 ?_
          subst h
          exact Runs.rt rfl
  · rw [if_neg c13] at h
    refine Runs.brF (P := (I 1 1) ≤ x3) (a := 90) (b := 13) (L := [.ref 79, .int x1, .int x2, .int x3, vU, vU]) (S := []) (z := (zS I J tg)) rfl c13 ?_
    refine Runs.sN 6 (c' := (21, [.ref 79, .int x1, .int x2, .int x3, vU, vU], [.int (((I 79 8) >>> (x3 &&& 31)) &&& 1)], (zS I J tg))) rfl ?_
    by_cases c21 : (((I 79 8) >>> (x3 &&& 31)) &&& 1) = 0
    · rw [if_pos c21] at h
      refine Runs.brT (P := (((I 79 8) >>> (x3 &&& 31)) &&& 1) = 0) (a := 84) (b := 24) (L := [.ref 79, .int x1, .int x2, .int x3, vU, vU]) (S := []) (z := (zS I J tg)) rfl c21 ?_
      refine Runs.sN 2 (c' := (2, [.ref 79, .int x1, .int x2, .int (x3 + 1), vU, vU], [], (zS I J tg))) rfl ?_
      exact h
    · rw [if_neg c21] at h
      refine Runs.brF (P := (((I 79 8) >>> (x3 &&& 31)) &&& 1) = 0) (a := 84) (b := 24) (L := [.ref 79, .int x1, .int x2, .int x3, vU, vU]) (S := []) (z := (zS I J tg)) rfl c21 ?_
      refine Runs.sN 8 (c' := (36, [.ref 79, .int x1, .int x2, .int x3, .int (12 + x3), vU], [.int x3, .int x2, .ref 81], (zS I J tg))) rfl ?_
      obtain ⟨v6, I7, c22, h⟩ := h
      refine Runs.cl (cm := 3) (as := [.int x2, .int x3]) (rest := [.ref 81]) (r1 := ((some (.int v6)), (zS I7 J tg))) rfl (Nat.le_of_ble_eq_true rfl) c22 ?_
      refine Runs.as (c' := (39, [.ref 79, .int x1, .int x2, .int x3, .int (12 + x3), vU], [.int v6, .ref 81], (zS I7 J tg))) rfl ?_
      refine Runs.sN 3 (c' := (45, [.ref 79, .int x1, .int x2, .int x3, .int (12 + x3), vU], [.int (12 + x3), .ref 70, .int v6, .ref 81], (zS I7 J tg))) rfl ?_
      obtain ⟨v8, I9, c23, h⟩ := h
      refine Runs.cl (cm := 65) (as := [.ref 70, .int (12 + x3)]) (rest := [.int v6, .ref 81]) (r1 := ((some (.int v8)), (zS I9 J tg))) rfl (Nat.le_of_ble_eq_true rfl) c23 ?_
      refine Runs.as (c' := (48, [.ref 79, .int x1, .int x2, .int x3, .int (12 + x3), vU], [.int v8, .int v6, .ref 81], (zS I9 J tg))) rfl ?_
      refine Runs.sN 1 (c' := (49, [.ref 79, .int x1, .int x2, .int x3, .int (12 + x3), vU], [.int (v6 + v8), .ref 81], (zS I9 J tg))) rfl ?_
      obtain ⟨c24, h⟩ := h
      refine Runs.to (c' := (50, [.ref 79, .int x1, .int x2, .int x3, .int (12 + x3), vU], [.int (I9 81 ((v6 + v8).toNatClampNeg))], (zS I9 J tg))) (Runs.ild rfl (show (81 : Nat) < 114 by decide) rfl c24) ?_
      refine Runs.sN 12 (c' := (73, [.ref 79, .int x1, .int x2, .int x3, .int (12 + x3), .int (I9 81 ((v6 + v8).toNatClampNeg))], [.int (I9 79 7), .ref 4, .int x2, .ref 70, .int x3, .ref 75], (zS I9 J tg))) rfl ?_
      obtain ⟨c25, h⟩ := h
      refine Runs.to (c' := (74, [.ref 79, .int x1, .int x2, .int x3, .int (12 + x3), .int (I9 81 ((v6 + v8).toNatClampNeg))], [.int (I9 4 ((I9 79 7).toNatClampNeg)), .int x2, .ref 70, .int x3, .ref 75], (zS I9 J tg))) (Runs.ild rfl (show (4 : Nat) < 114 by decide) rfl c25) ?_
      refine Runs.sN 2 (c' := (78, [.ref 79, .int x1, .int x2, .int x3, .int (12 + x3), .int (I9 81 ((v6 + v8).toNatClampNeg))], [.int (I9 81 ((v6 + v8).toNatClampNeg)), .int (12 + x3), .int (I9 4 ((I9 79 7).toNatClampNeg)), .int x2, .ref 70, .int x3, .ref 75], (zS I9 J tg))) rfl ?_
      obtain ⟨v10, I11, c26, h⟩ := h
      refine Runs.cl (cm := 64) (as := [.ref 70, .int x2, .int (I9 4 ((I9 79 7).toNatClampNeg)), .int (12 + x3), .int (I9 81 ((v6 + v8).toNatClampNeg))]) (rest := [.int x3, .ref 75]) (r1 := ((some (.int v10)), (zS I11 J tg))) rfl (Nat.le_of_ble_eq_true rfl) c26 ?_
      refine Runs.as (c' := (81, [.ref 79, .int x1, .int x2, .int x3, .int (12 + x3), .int (I9 81 ((v6 + v8).toNatClampNeg))], [.int v10, .int x3, .ref 75], (zS I11 J tg))) rfl ?_
      obtain ⟨I12, c27, h⟩ := h
      refine Runs.cl (cm := 96) (as := [.ref 75, .int x3, .int v10]) (rest := []) (r1 := (none, (zS I12 J tg))) rfl (Nat.le_of_ble_eq_true rfl) c27 ?_
      refine Runs.as (c' := (84, [.ref 79, .int x1, .int x2, .int x3, .int (12 + x3), .int (I9 81 ((v6 + v8).toNatClampNeg))], [], (zS I12 J tg))) rfl ?_
      refine Runs.sN 2 (c' := (2, [.ref 79, .int x1, .int x2, .int (x3 + 1), .int (12 + x3), .int (I9 81 ((v6 + v8).toNatClampNeg))], [], (zS I12 J tg))) rfl ?_
      exact Runs.weak (L := [.ref 79, .int x1, .int x2, .int (x3 + 1), vU, vU]) (Lle.k (Lle.k (Lle.k (Lle.k (Lle.u (Lle.u Lle.n)))))) h
-- X0_isSmaller 
theorem sg_6 {L d : Nat} {xs : Nat → Int32} (I : Nat → Nat → Int32) (J : Nat → Nat → Int64) (tg : Option Nat) (a1 : Int32) (a2 : Int32) {r : Option Value × SS} (h : ((if a2 < (I 79 9) then (r = (some (.int 1), (zS I J tg))) else ((if a2 = (I 79 9) then ((if (I 79 10) ≤ a1 then (r = (some (.int 0), (zS I J tg))) else (r = (some (.int 1), (zS I J tg))))) else (r = (some (.int 0), (zS I J tg)))))))) : Runs (GW L xs) d 6 (0, [.ref 79, .int a1, .int a2], [], (zS I J tg)) r := by
  refine Runs.sN 3 (c' := (5, [.ref 79, .int a1, .int a2], [.int (I 79 9), .int a2], (zS I J tg))) rfl ?_
  by_cases c1 : a2 < (I 79 9)
  · rw [if_pos c1] at h
    refine Runs.brT (P := a2 < (I 79 9)) (a := 24) (b := 8) (L := [.ref 79, .int a1, .int a2]) (S := []) (z := (zS I J tg)) rfl c1 ?_
    refine Runs.sN 2 (c' := (29, [.ref 79, .int a1, .int a2], [.int 1], (zS I J tg))) rfl ?_
    subst h
    exact Runs.rt rfl
  · rw [if_neg c1] at h
    refine Runs.brF (P := a2 < (I 79 9)) (a := 24) (b := 8) (L := [.ref 79, .int a1, .int a2]) (S := []) (z := (zS I J tg)) rfl c1 ?_
    refine Runs.sN 3 (c' := (13, [.ref 79, .int a1, .int a2], [.int (I 79 9), .int a2], (zS I J tg))) rfl ?_
    by_cases c2 : a2 = (I 79 9)
    · rw [if_pos c2] at h
      refine Runs.brT (P := a2 = (I 79 9)) (a := 16) (b := 28) (L := [.ref 79, .int a1, .int a2]) (S := []) (z := (zS I J tg)) rfl c2 ?_
      refine Runs.sN 3 (c' := (21, [.ref 79, .int a1, .int a2], [.int (I 79 10), .int a1], (zS I J tg))) rfl ?_
      by_cases c3 : (I 79 10) ≤ a1
      · rw [if_pos c3] at h
        refine Runs.brT (P := (I 79 10) ≤ a1) (a := 28) (b := 24) (L := [.ref 79, .int a1, .int a2]) (S := []) (z := (zS I J tg)) rfl c3 ?_
        refine Runs.sN 1 (c' := (29, [.ref 79, .int a1, .int a2], [.int 0], (zS I J tg))) rfl ?_
        subst h
        exact Runs.rt rfl
      · rw [if_neg c3] at h
        refine Runs.brF (P := (I 79 10) ≤ a1) (a := 28) (b := 24) (L := [.ref 79, .int a1, .int a2]) (S := []) (z := (zS I J tg)) rfl c3 ?_
        refine Runs.sN 2 (c' := (29, [.ref 79, .int a1, .int a2], [.int 1], (zS I J tg))) rfl ?_
        subst h
        exact Runs.rt rfl
    · rw [if_neg c2] at h
      refine Runs.brF (P := a2 = (I 79 9)) (a := 16) (b := 28) (L := [.ref 79, .int a1, .int a2]) (S := []) (z := (zS I J tg)) rfl c2 ?_
      refine Runs.sN 1 (c' := (29, [.ref 79, .int a1, .int a2], [.int 0], (zS I J tg))) rfl ?_
      subst h
      exact Runs.rt rfl
-- X0_drawMade 
theorem sg_7 {L d : Nat} {xs : Nat → Int32} (I : Nat → Nat → Int32) (J : Nat → Nat → Int64) (tg : Option Nat) (a1 : Int32) {r : Option Value × SS} (h : (Runs (GW L xs) (d + 1) 7 (4, [.ref 79, .int a1, .int 0, .int 0], [], (zS I J tg)) r)) : Runs (GW L xs) (d + 1) 7 (0, [.ref 79, .int a1, vU, vU], [], (zS I J tg)) r := by
  refine Runs.sN 4 (c' := (4, [.ref 79, .int a1, .int 0, .int 0], [], (zS I J tg))) rfl ?_
  exact h
theorem sg_7_4 {L d : Nat} {xs : Nat → Int32} (I : Nat → Nat → Int32) (J : Nat → Nat → Int64) (tg : Option Nat) (x1 : Int32) (x2 : Int32) (x3 : Int32) {r : Option Value × SS} (h : ((if (I 18 2) ≤ x3 then (¬ (x1 < 0 ∨ 24 ≤ (x1).toNatClampNeg) ∧ ∃ (I1 : Nat → Nat → Int32), Runs (GW L xs) d 61 (0, [.ref 70, .int x1, vU], [], (zS (up2 I 3 ((x1).toNatClampNeg) x2) J tg)) (none, (zS I1 J tg)) ∧ r = (some (.int x2), (zS I1 J tg))) else ((if (((I 79 10) >>> (x3 &&& 31)) &&& 1) = 0 then (Runs (GW L xs) (d + 1) 7 (4, [.ref 79, .int x1, .int x2, .int (x3 + 1)], [], (zS I J tg)) r) else ((if 6 ≤ x2 then (Runs (GW L xs) (d + 1) 7 (4, [.ref 79, .int x1, .int x2, .int (x3 + 1)], [], (zS I J tg)) r) else (¬ (x3 < 0 ∨ 10 ≤ (x3).toNatClampNeg) ∧ ¬ (((x1 * 6) + x2) < 0 ∨ 144 ≤ ((x1 * 6) + x2).toNatClampNeg) ∧ Runs (GW L xs) (d + 1) 7 (4, [.ref 79, .int x1, .int (x2 + 1), .int (x3 + 1)], [], (zS (up2 I 2 (((x1 * 6) + x2).toNatClampNeg) (I 19 ((x3).toNatClampNeg))) J tg)) r)))))))) : Runs (GW L xs) (d + 1) 7 (4, [.ref 79, .int x1, .int x2, .int x3], [], (zS I J tg)) r := by
  refine Runs.sN 4 (c' := (12, [.ref 79, .int x1, .int x2, .int x3], [.int (I 18 2), .int x3], (zS I J tg))) rfl ?_
  by_cases c2 : (I 18 2) ≤ x3
  · rw [if_pos c2] at h
    refine Runs.brT (P := (I 18 2) ≤ x3) (a := 64) (b := 15) (L := [.ref 79, .int x1, .int x2, .int x3]) (S := []) (z := (zS I J tg)) rfl c2 ?_
    refine Runs.sN 5 (c' := (73, [.ref 79, .int x1, .int x2, .int x3], [.int x2, .int x1, .ref 3], (zS I J tg))) rfl ?_
    obtain ⟨c3, h⟩ := h
    refine Runs.to (c' := (74, [.ref 79, .int x1, .int x2, .int x3], [], (zS (up2 I 3 ((x1).toNatClampNeg) x2) J tg))) (Runs.ist rfl (show (3 : Nat) < 114 by decide) rfl c3) ?_
    refine Runs.sN 3 (c' := (79, [.ref 79, .int x1, .int x2, .int x3], [.int x1, .ref 70], (zS (up2 I 3 ((x1).toNatClampNeg) x2) J tg))) rfl ?_
    obtain ⟨I1, c4, h⟩ := h
    refine Runs.cl (cm := 61) (as := [.ref 70, .int x1]) (rest := []) (r1 := (none, (zS I1 J tg))) rfl (Nat.le_of_ble_eq_true rfl) c4 ?_
    refine Runs.as (c' := (82, [.ref 79, .int x1, .int x2, .int x3], [], (zS I1 J tg))) rfl ?_
    refine Runs.sN 1 (c' := (83, [.ref 79, .int x1, .int x2, .int x3], [.int x2], (zS I1 J tg))) rfl ?_
    subst h
    exact Runs.rt rfl
  · rw [if_neg c2] at h
    refine Runs.brF (P := (I 18 2) ≤ x3) (a := 64) (b := 15) (L := [.ref 79, .int x1, .int x2, .int x3]) (S := []) (z := (zS I J tg)) rfl c2 ?_
    refine Runs.sN 6 (c' := (23, [.ref 79, .int x1, .int x2, .int x3], [.int (((I 79 10) >>> (x3 &&& 31)) &&& 1)], (zS I J tg))) rfl ?_
    by_cases c5 : (((I 79 10) >>> (x3 &&& 31)) &&& 1) = 0
    · rw [if_pos c5] at h
      refine Runs.brT (P := (((I 79 10) >>> (x3 &&& 31)) &&& 1) = 0) (a := 58) (b := 26) (L := [.ref 79, .int x1, .int x2, .int x3]) (S := []) (z := (zS I J tg)) rfl c5 ?_
      refine Runs.sN 2 (c' := (4, [.ref 79, .int x1, .int x2, .int (x3 + 1)], [], (zS I J tg))) rfl ?_
      exact h
    · rw [if_neg c5] at h
      refine Runs.brF (P := (((I 79 10) >>> (x3 &&& 31)) &&& 1) = 0) (a := 58) (b := 26) (L := [.ref 79, .int x1, .int x2, .int x3]) (S := []) (z := (zS I J tg)) rfl c5 ?_
      refine Runs.sN 2 (c' := (29, [.ref 79, .int x1, .int x2, .int x3], [.int 6, .int x2], (zS I J tg))) rfl ?_
      by_cases c6 : 6 ≤ x2
      · rw [if_pos c6] at h
        refine Runs.brT (P := 6 ≤ x2) (a := 58) (b := 32) (L := [.ref 79, .int x1, .int x2, .int x3]) (S := []) (z := (zS I J tg)) rfl c6 ?_
        refine Runs.sN 2 (c' := (4, [.ref 79, .int x1, .int x2, .int (x3 + 1)], [], (zS I J tg))) rfl ?_
        exact h
      · rw [if_neg c6] at h
        refine Runs.brF (P := 6 ≤ x2) (a := 58) (b := 32) (L := [.ref 79, .int x1, .int x2, .int x3]) (S := []) (z := (zS I J tg)) rfl c6 ?_
        refine Runs.sN 12 (c' := (53, [.ref 79, .int x1, .int x2, .int x3], [.int x3, .ref 19, .int ((x1 * 6) + x2), .ref 2], (zS I J tg))) rfl ?_
        obtain ⟨c7, h⟩ := h
        refine Runs.to (c' := (54, [.ref 79, .int x1, .int x2, .int x3], [.int (I 19 ((x3).toNatClampNeg)), .int ((x1 * 6) + x2), .ref 2], (zS I J tg))) (Runs.ild rfl (show (19 : Nat) < 114 by decide) rfl c7) ?_
        obtain ⟨c8, h⟩ := h
        refine Runs.to (c' := (55, [.ref 79, .int x1, .int x2, .int x3], [], (zS (up2 I 2 (((x1 * 6) + x2).toNatClampNeg) (I 19 ((x3).toNatClampNeg))) J tg))) (Runs.ist rfl (show (2 : Nat) < 114 by decide) rfl c8) ?_
        refine Runs.sN 3 (c' := (4, [.ref 79, .int x1, .int (x2 + 1), .int (x3 + 1)], [], (zS (up2 I 2 (((x1 * 6) + x2).toNatClampNeg) (I 19 ((x3).toNatClampNeg))) J tg))) rfl ?_
        exact h
-- X0_seekWorn 
theorem sg_8 {L d : Nat} {xs : Nat → Int32} (I : Nat → Nat → Int32) (J : Nat → Nat → Int64) (tg : Option Nat) (a1 : Int32) (a2 : Int32) (a3 : Int32) {r : Option Value × SS} (h : (¬ (a1 < 0 ∨ 24 ≤ (a1).toNatClampNeg) ∧ Runs (GW L xs) (d + 1) 8 (19, [.ref 79, .int a1, .int a2, .int a3, .int (I 3 ((a1).toNatClampNeg)), .int 0, vU], [], (zS (up2 I 79 12 (-1)) J tg)) r)) : Runs (GW L xs) (d + 1) 8 (0, [.ref 79, .int a1, .int a2, .int a3, vU, vU, vU], [], (zS I J tg)) r := by
  refine Runs.sN 4 (c' := (8, [.ref 79, .int a1, .int a2, .int a3, vU, vU, vU], [.int a1, .ref 3], (zS I J tg))) rfl ?_
  obtain ⟨c8, h⟩ := h
  refine Runs.to (c' := (9, [.ref 79, .int a1, .int a2, .int a3, vU, vU, vU], [.int (I 3 ((a1).toNatClampNeg))], (zS I J tg))) (Runs.ild rfl (show (3 : Nat) < 114 by decide) rfl c8) ?_
  refine Runs.sN 6 (c' := (19, [.ref 79, .int a1, .int a2, .int a3, .int (I 3 ((a1).toNatClampNeg)), .int 0, vU], [], (zS (up2 I 79 12 (-1)) J tg))) rfl ?_
  exact h
theorem sg_8_19 {L d : Nat} {xs : Nat → Int32} (I : Nat → Nat → Int32) (J : Nat → Nat → Int64) (tg : Option Nat) (x1 : Int32) (x2 : Int32) (x3 : Int32) (x4 : Int32) (x5 : Int32) {r : Option Value × SS} (h : ((if (1 <<< (x4 &&& 31)) ≤ x5 then (r = (none, (zS I J tg))) else (∃ (v1 : Int32) (I2 : Nat → Nat → Int32), Runs (GW L xs) d 300 (0, [.int x5], [], (zS I J tg)) ((some (.int v1)), (zS I2 J tg)) ∧ (if v1 = x3 then (∃ (v3 : Int32) (I4 : Nat → Nat → Int32), Runs (GW L xs) d 9 (0, [.ref 79, .int x1, .int x5, vU, vU], [], (zS I2 J tg)) ((some (.int v3)), (zS I4 J tg)) ∧ ∃ (I5 : Nat → Nat → Int32), Runs (GW L xs) d 95 (0, [.ref 75, .int x1, .int x2, .ref 80, .int v3, vU], [], (zS I4 J tg)) (none, (zS I5 J tg)) ∧ ∃ (v6 : Int32) (I7 : Nat → Nat → Int32), Runs (GW L xs) d 106 (0, [.ref 75, vU, vU], [], (zS I5 J tg)) ((some (.int v6)), (zS I7 J tg)) ∧ (if (I7 79 12) = (-1) then (Runs (GW L xs) (d + 1) 8 (19, [.ref 79, .int x1, .int x2, .int x3, .int x4, .int (x5 + 1), vU], [], (zS (up2 (up2 I7 79 12 v6) 79 13 x5) J tg)) r) else ((if (I7 79 12) ≤ v6 then (Runs (GW L xs) (d + 1) 8 (19, [.ref 79, .int x1, .int x2, .int x3, .int x4, .int (x5 + 1), vU], [], (zS I7 J tg)) r) else (Runs (GW L xs) (d + 1) 8 (19, [.ref 79, .int x1, .int x2, .int x3, .int x4, .int (x5 + 1), vU], [], (zS (up2 (up2 I7 79 12 v6) 79 13 x5) J tg)) r))))) else (Runs (GW L xs) (d + 1) 8 (19, [.ref 79, .int x1, .int x2, .int x3, .int x4, .int (x5 + 1), vU], [], (zS I2 J tg)) r)))))) : Runs (GW L xs) (d + 1) 8 (19, [.ref 79, .int x1, .int x2, .int x3, .int x4, .int x5, vU], [], (zS I J tg)) r := by
  refine Runs.sN 4 (c' := (25, [.ref 79, .int x1, .int x2, .int x3, .int x4, .int x5, vU], [.int (1 <<< (x4 &&& 31)), .int x5], (zS I J tg))) rfl ?_
  by_cases c8 : (1 <<< (x4 &&& 31)) ≤ x5
  · rw [if_pos c8] at h
    refine Runs.brT (P := (1 <<< (x4 &&& 31)) ≤ x5) (a := 104) (b := 28) (L := [.ref 79, .int x1, .int x2, .int x3, .int x4, .int x5, vU]) (S := []) (z := (zS I J tg)) rfl c8 ?_
    subst h
    exact Runs.rt rfl
  · rw [if_neg c8] at h
    refine Runs.brF (P := (1 <<< (x4 &&& 31)) ≤ x5) (a := 104) (b := 28) (L := [.ref 79, .int x1, .int x2, .int x3, .int x4, .int x5, vU]) (S := []) (z := (zS I J tg)) rfl c8 ?_
    refine Runs.sN 1 (c' := (30, [.ref 79, .int x1, .int x2, .int x3, .int x4, .int x5, vU], [.int x5], (zS I J tg))) rfl ?_
    obtain ⟨v1, I2, c9, h⟩ := h
    refine Runs.cl (cm := 300) (as := [.int x5]) (rest := []) (r1 := ((some (.int v1)), (zS I2 J tg))) rfl (Nat.le_of_ble_eq_true rfl) c9 ?_
    refine Runs.as (c' := (33, [.ref 79, .int x1, .int x2, .int x3, .int x4, .int x5, vU], [.int v1], (zS I2 J tg))) rfl ?_
    refine Runs.sN 1 (c' := (34, [.ref 79, .int x1, .int x2, .int x3, .int x4, .int x5, vU], [.int x3, .int v1], (zS I2 J tg))) rfl ?_
    by_cases c10 : v1 = x3
    · rw [if_pos c10] at h
      refine Runs.brT (P := v1 = x3) (a := 40) (b := 37) (L := [.ref 79, .int x1, .int x2, .int x3, .int x4, .int x5, vU]) (S := []) (z := (zS I2 J tg)) rfl c10 ?_
      refine Runs.sN 9 (c' := (54, [.ref 79, .int x1, .int x2, .int x3, .int x4, .int x5, vU], [.int x5, .int x1, .ref 79, .ref 80, .int x2, .int x1, .ref 75], (zS I2 J tg))) rfl ?_
      obtain ⟨v3, I4, c11, h⟩ := h
      refine Runs.cl (cm := 9) (as := [.ref 79, .int x1, .int x5]) (rest := [.ref 80, .int x2, .int x1, .ref 75]) (r1 := ((some (.int v3)), (zS I4 J tg))) rfl (Nat.le_of_ble_eq_true rfl) c11 ?_
      refine Runs.as (c' := (57, [.ref 79, .int x1, .int x2, .int x3, .int x4, .int x5, vU], [.int v3, .ref 80, .int x2, .int x1, .ref 75], (zS I4 J tg))) rfl ?_
      obtain ⟨I5, c12, h⟩ := h
      refine Runs.cl (cm := 95) (as := [.ref 75, .int x1, .int x2, .ref 80, .int v3]) (rest := []) (r1 := (none, (zS I5 J tg))) rfl (Nat.le_of_ble_eq_true rfl) c12 ?_
      refine Runs.as (c' := (60, [.ref 79, .int x1, .int x2, .int x3, .int x4, .int x5, vU], [], (zS I5 J tg))) rfl ?_
      refine Runs.sN 2 (c' := (64, [.ref 79, .int x1, .int x2, .int x3, .int x4, .int x5, vU], [.ref 75], (zS I5 J tg))) rfl ?_
      obtain ⟨v6, I7, c13, h⟩ := h
      refine Runs.cl (cm := 106) (as := [.ref 75]) (rest := []) (r1 := ((some (.int v6)), (zS I7 J tg))) rfl (Nat.le_of_ble_eq_true rfl) c13 ?_
      refine Runs.as (c' := (67, [.ref 79, .int x1, .int x2, .int x3, .int x4, .int x5, vU], [.int v6], (zS I7 J tg))) rfl ?_
      refine Runs.sN 4 (c' := (74, [.ref 79, .int x1, .int x2, .int x3, .int x4, .int x5, .int v6], [.int (-1), .int (I7 79 12)], (zS I7 J tg))) rfl ?_
      by_cases c14 : (I7 79 12) = (-1)
      · rw [if_pos c14] at h
        refine Runs.brT (P := (I7 79 12) = (-1)) (a := 86) (b := 77) (L := [.ref 79, .int x1, .int x2, .int x3, .int x4, .int x5, .int v6]) (S := []) (z := (zS I7 J tg)) rfl c14 ?_
        refine Runs.sN 8 (c' := (19, [.ref 79, .int x1, .int x2, .int x3, .int x4, .int (x5 + 1), .int v6], [], (zS (up2 (up2 I7 79 12 v6) 79 13 x5) J tg))) rfl ?_
        exact Runs.weak (L := [.ref 79, .int x1, .int x2, .int x3, .int x4, .int (x5 + 1), vU]) (Lle.k (Lle.k (Lle.k (Lle.k (Lle.k (Lle.k (Lle.u Lle.n))))))) h
      · rw [if_neg c14] at h
        refine Runs.brF (P := (I7 79 12) = (-1)) (a := 86) (b := 77) (L := [.ref 79, .int x1, .int x2, .int x3, .int x4, .int x5, .int v6]) (S := []) (z := (zS I7 J tg)) rfl c14 ?_
        refine Runs.sN 3 (c' := (83, [.ref 79, .int x1, .int x2, .int x3, .int x4, .int x5, .int v6], [.int (I7 79 12), .int v6], (zS I7 J tg))) rfl ?_
        by_cases c15 : (I7 79 12) ≤ v6
        · rw [if_pos c15] at h
          refine Runs.brT (P := (I7 79 12) ≤ v6) (a := 98) (b := 86) (L := [.ref 79, .int x1, .int x2, .int x3, .int x4, .int x5, .int v6]) (S := []) (z := (zS I7 J tg)) rfl c15 ?_
          refine Runs.sN 2 (c' := (19, [.ref 79, .int x1, .int x2, .int x3, .int x4, .int (x5 + 1), .int v6], [], (zS I7 J tg))) rfl ?_
          exact Runs.weak (L := [.ref 79, .int x1, .int x2, .int x3, .int x4, .int (x5 + 1), vU]) (Lle.k (Lle.k (Lle.k (Lle.k (Lle.k (Lle.k (Lle.u Lle.n))))))) h
        · rw [if_neg c15] at h
          refine Runs.brF (P := (I7 79 12) ≤ v6) (a := 98) (b := 86) (L := [.ref 79, .int x1, .int x2, .int x3, .int x4, .int x5, .int v6]) (S := []) (z := (zS I7 J tg)) rfl c15 ?_
          refine Runs.sN 8 (c' := (19, [.ref 79, .int x1, .int x2, .int x3, .int x4, .int (x5 + 1), .int v6], [], (zS (up2 (up2 I7 79 12 v6) 79 13 x5) J tg))) rfl ?_
          exact Runs.weak (L := [.ref 79, .int x1, .int x2, .int x3, .int x4, .int (x5 + 1), vU]) (Lle.k (Lle.k (Lle.k (Lle.k (Lle.k (Lle.k (Lle.u Lle.n))))))) h
    · rw [if_neg c10] at h
      refine Runs.brF (P := v1 = x3) (a := 40) (b := 37) (L := [.ref 79, .int x1, .int x2, .int x3, .int x4, .int x5, vU]) (S := []) (z := (zS I2 J tg)) rfl c10 ?_
      refine Runs.sN 3 (c' := (19, [.ref 79, .int x1, .int x2, .int x3, .int x4, .int (x5 + 1), vU], [], (zS I2 J tg))) rfl ?_
      exact h
-- X0_keepBut 
theorem sg_9 {L d : Nat} {xs : Nat → Int32} (I : Nat → Nat → Int32) (J : Nat → Nat → Int64) (tg : Option Nat) (a1 : Int32) (a2 : Int32) {r : Option Value × SS} (h : (Runs (GW L xs) d 9 (5, [.ref 79, .int a1, .int a2, .int 0, .int 0], [], (zS I J tg)) r)) : Runs (GW L xs) d 9 (0, [.ref 79, .int a1, .int a2, vU, vU], [], (zS I J tg)) r := by
  refine Runs.sN 4 (c' := (5, [.ref 79, .int a1, .int a2, .int 0, .int 0], [], (zS I J tg))) rfl ?_
  exact h
theorem sg_9_5 {L d : Nat} {xs : Nat → Int32} (I : Nat → Nat → Int32) (J : Nat → Nat → Int64) (tg : Option Nat) (x1 : Int32) (x2 : Int32) (x3 : Int32) (x4 : Int32) {r : Option Value × SS} (h : (¬ (x1 < 0 ∨ 24 ≤ (x1).toNatClampNeg) ∧ (if (I 3 ((x1).toNatClampNeg)) ≤ x4 then (r = (some (.int x3), (zS I J tg))) else ((if ((x2 >>> (x4 &&& 31)) &&& 1) = 0 then (¬ (((x1 * 6) + x4) < 0 ∨ 144 ≤ ((x1 * 6) + x4).toNatClampNeg) ∧ ¬ (x3 < 0 ∨ 6 ≤ (x3).toNatClampNeg) ∧ Runs (GW L xs) d 9 (5, [.ref 79, .int x1, .int x2, .int (x3 + 1), .int (x4 + 1)], [], (zS (up2 I 80 ((x3).toNatClampNeg) (I 2 (((x1 * 6) + x4).toNatClampNeg))) J tg)) r) else (Runs (GW L xs) d 9 (5, [.ref 79, .int x1, .int x2, .int x3, .int (x4 + 1)], [], (zS I J tg)) r)))))) : Runs (GW L xs) d 9 (5, [.ref 79, .int x1, .int x2, .int x3, .int x4], [], (zS I J tg)) r := by
  refine Runs.sN 5 (c' := (15, [.ref 79, .int x1, .int x2, .int x3, .int x4], [.int x1, .ref 3, .int x4], (zS I J tg))) rfl ?_
  obtain ⟨c1, h⟩ := h
  refine Runs.to (c' := (16, [.ref 79, .int x1, .int x2, .int x3, .int x4], [.int (I 3 ((x1).toNatClampNeg)), .int x4], (zS I J tg))) (Runs.ild rfl (show (3 : Nat) < 114 by decide) rfl c1) ?_
  by_cases c2 : (I 3 ((x1).toNatClampNeg)) ≤ x4
  · rw [if_pos c2] at h
    refine Runs.brT (P := (I 3 ((x1).toNatClampNeg)) ≤ x4) (a := 58) (b := 19) (L := [.ref 79, .int x1, .int x2, .int x3, .int x4]) (S := []) (z := (zS I J tg)) rfl c2 ?_
    refine Runs.sN 1 (c' := (59, [.ref 79, .int x1, .int x2, .int x3, .int x4], [.int x3], (zS I J tg))) rfl ?_
    subst h
    exact Runs.rt rfl
  · rw [if_neg c2] at h
    refine Runs.brF (P := (I 3 ((x1).toNatClampNeg)) ≤ x4) (a := 58) (b := 19) (L := [.ref 79, .int x1, .int x2, .int x3, .int x4]) (S := []) (z := (zS I J tg)) rfl c2 ?_
    refine Runs.sN 5 (c' := (25, [.ref 79, .int x1, .int x2, .int x3, .int x4], [.int ((x2 >>> (x4 &&& 31)) &&& 1)], (zS I J tg))) rfl ?_
    by_cases c3 : ((x2 >>> (x4 &&& 31)) &&& 1) = 0
    · rw [if_pos c3] at h
      refine Runs.brT (P := ((x2 >>> (x4 &&& 31)) &&& 1) = 0) (a := 28) (b := 52) (L := [.ref 79, .int x1, .int x2, .int x3, .int x4]) (S := []) (z := (zS I J tg)) rfl c3 ?_
      refine Runs.sN 11 (c' := (47, [.ref 79, .int x1, .int x2, .int x3, .int x4], [.int ((x1 * 6) + x4), .ref 2, .int x3, .ref 80], (zS I J tg))) rfl ?_
      obtain ⟨c4, h⟩ := h
      refine Runs.to (c' := (48, [.ref 79, .int x1, .int x2, .int x3, .int x4], [.int (I 2 (((x1 * 6) + x4).toNatClampNeg)), .int x3, .ref 80], (zS I J tg))) (Runs.ild rfl (show (2 : Nat) < 114 by decide) rfl c4) ?_
      obtain ⟨c5, h⟩ := h
      refine Runs.to (c' := (49, [.ref 79, .int x1, .int x2, .int x3, .int x4], [], (zS (up2 I 80 ((x3).toNatClampNeg) (I 2 (((x1 * 6) + x4).toNatClampNeg))) J tg))) (Runs.ist rfl (show (80 : Nat) < 114 by decide) rfl c5) ?_
      refine Runs.sN 3 (c' := (5, [.ref 79, .int x1, .int x2, .int (x3 + 1), .int (x4 + 1)], [], (zS (up2 I 80 ((x3).toNatClampNeg) (I 2 (((x1 * 6) + x4).toNatClampNeg))) J tg))) rfl ?_
      exact h
    · rw [if_neg c3] at h
      refine Runs.brF (P := ((x2 >>> (x4 &&& 31)) &&& 1) = 0) (a := 28) (b := 52) (L := [.ref 79, .int x1, .int x2, .int x3, .int x4]) (S := []) (z := (zS I J tg)) rfl c3 ?_
      refine Runs.sN 2 (c' := (5, [.ref 79, .int x1, .int x2, .int x3, .int (x4 + 1)], [], (zS I J tg))) rfl ?_
      exact h
-- X0_seekMended 
theorem sg_10 {L d : Nat} {xs : Nat → Int32} (I : Nat → Nat → Int32) (J : Nat → Nat → Int64) (tg : Option Nat) (a1 : Int32) (a2 : Int32) (a3 : Int32) {r : Option Value × SS} (h : (Runs (GW L xs) (d + 1) 10 (8, [.ref 79, .int a1, .int a2, .int a3, .int 0, vU, vU], [], (zS (up2 I 79 7 a1) J tg)) r)) : Runs (GW L xs) (d + 1) 10 (0, [.ref 79, .int a1, .int a2, .int a3, vU, vU, vU], [], (zS I J tg)) r := by
  refine Runs.sN 5 (c' := (8, [.ref 79, .int a1, .int a2, .int a3, .int 0, vU, vU], [], (zS (up2 I 79 7 a1) J tg))) rfl ?_
  exact h
theorem sg_10_8 {L d : Nat} {xs : Nat → Int32} (I : Nat → Nat → Int32) (J : Nat → Nat → Int64) (tg : Option Nat) (x1 : Int32) (x2 : Int32) (x3 : Int32) (x4 : Int32) {r : Option Value × SS} (h : (¬ (x1 < 0 ∨ 24 ≤ (x1).toNatClampNeg) ∧ (if (I 3 ((x1).toNatClampNeg)) ≤ x4 then (r = (some (.int 0), (zS I J tg))) else (Runs (GW L xs) (d + 1) 10 (25, [.ref 79, .int x1, .int x2, .int x3, .int x4, .int 0, vU], [], (zS I J tg)) r)))) : Runs (GW L xs) (d + 1) 10 (8, [.ref 79, .int x1, .int x2, .int x3, .int x4, vU, vU], [], (zS I J tg)) r := by
  refine Runs.sN 5 (c' := (18, [.ref 79, .int x1, .int x2, .int x3, .int x4, vU, vU], [.int x1, .ref 3, .int x4], (zS I J tg))) rfl ?_
  obtain ⟨c1, h⟩ := h
  refine Runs.to (c' := (19, [.ref 79, .int x1, .int x2, .int x3, .int x4, vU, vU], [.int (I 3 ((x1).toNatClampNeg)), .int x4], (zS I J tg))) (Runs.ild rfl (show (3 : Nat) < 114 by decide) rfl c1) ?_
  by_cases c2 : (I 3 ((x1).toNatClampNeg)) ≤ x4
  · rw [if_pos c2] at h
    refine Runs.brT (P := (I 3 ((x1).toNatClampNeg)) ≤ x4) (a := 81) (b := 22) (L := [.ref 79, .int x1, .int x2, .int x3, .int x4, vU, vU]) (S := []) (z := (zS I J tg)) rfl c2 ?_
    refine Runs.sN 1 (c' := (82, [.ref 79, .int x1, .int x2, .int x3, .int x4, vU, vU], [.int 0], (zS I J tg))) rfl ?_
    subst h
    exact Runs.rt rfl
  · rw [if_neg c2] at h
    refine Runs.brF (P := (I 3 ((x1).toNatClampNeg)) ≤ x4) (a := 81) (b := 22) (L := [.ref 79, .int x1, .int x2, .int x3, .int x4, vU, vU]) (S := []) (z := (zS I J tg)) rfl c2 ?_
    refine Runs.sN 2 (c' := (25, [.ref 79, .int x1, .int x2, .int x3, .int x4, .int 0, vU], [], (zS I J tg))) rfl ?_
    exact h
theorem sg_10_25 {L d : Nat} {xs : Nat → Int32} (I : Nat → Nat → Int32) (J : Nat → Nat → Int64) (tg : Option Nat) (x1 : Int32) (x2 : Int32) (x3 : Int32) (x4 : Int32) (x5 : Int32) {r : Option Value × SS} (h : ((if 13 < x5 then (Runs (GW L xs) (d + 1) 10 (8, [.ref 79, .int x1, .int x2, .int x3, .int (x4 + 1), vU, vU], [], (zS I J tg)) r) else (∃ (v1 : Int32) (I2 : Nat → Nat → Int32), Runs (GW L xs) d 11 (0, [.ref 79, .int x4, .int x5, vU, vU, vU, vU, vU, vU], [], (zS I J tg)) ((some (.int v1)), (zS I2 J tg)) ∧ (if v1 = (-1) then (Runs (GW L xs) (d + 1) 10 (25, [.ref 79, .int x1, .int x2, .int x3, .int x4, .int (x5 + 1), vU], [], (zS I2 J tg)) r) else (∃ (v3 : Int32) (I4 : Nat → Nat → Int32), Runs (GW L xs) d 12 (0, [.ref 79, .int v1, .int x2, .int x3], [], (zS I2 J tg)) ((some (.int v3)), (zS I4 J tg)) ∧ (if v3 = 0 then (Runs (GW L xs) (d + 1) 10 (25, [.ref 79, .int x1, .int x2, .int x3, .int x4, .int (x5 + 1), vU], [], (zS I4 J tg)) r) else (r = (some (.int 1), (zS (up2 I4 82 0 x4) J tg)))))))))) : Runs (GW L xs) (d + 1) 10 (25, [.ref 79, .int x1, .int x2, .int x3, .int x4, .int x5, vU], [], (zS I J tg)) r := by
  refine Runs.sN 2 (c' := (29, [.ref 79, .int x1, .int x2, .int x3, .int x4, .int x5, vU], [.int 13, .int x5], (zS I J tg))) rfl ?_
  by_cases c5 : 13 < x5
  · rw [if_pos c5] at h
    refine Runs.brT (P := 13 < x5) (a := 75) (b := 32) (L := [.ref 79, .int x1, .int x2, .int x3, .int x4, .int x5, vU]) (S := []) (z := (zS I J tg)) rfl c5 ?_
    refine Runs.sN 2 (c' := (8, [.ref 79, .int x1, .int x2, .int x3, .int (x4 + 1), .int x5, vU], [], (zS I J tg))) rfl ?_
    exact Runs.weak (L := [.ref 79, .int x1, .int x2, .int x3, .int (x4 + 1), vU, vU]) (Lle.k (Lle.k (Lle.k (Lle.k (Lle.k (Lle.u (Lle.k Lle.n))))))) h
  · rw [if_neg c5] at h
    refine Runs.brF (P := 13 < x5) (a := 75) (b := 32) (L := [.ref 79, .int x1, .int x2, .int x3, .int x4, .int x5, vU]) (S := []) (z := (zS I J tg)) rfl c5 ?_
    refine Runs.sN 3 (c' := (37, [.ref 79, .int x1, .int x2, .int x3, .int x4, .int x5, vU], [.int x5, .int x4, .ref 79], (zS I J tg))) rfl ?_
    obtain ⟨v1, I2, c6, h⟩ := h
    refine Runs.cl (cm := 11) (as := [.ref 79, .int x4, .int x5]) (rest := []) (r1 := ((some (.int v1)), (zS I2 J tg))) rfl (Nat.le_of_ble_eq_true rfl) c6 ?_
    refine Runs.as (c' := (40, [.ref 79, .int x1, .int x2, .int x3, .int x4, .int x5, vU], [.int v1], (zS I2 J tg))) rfl ?_
    refine Runs.sN 3 (c' := (45, [.ref 79, .int x1, .int x2, .int x3, .int x4, .int x5, .int v1], [.int (-1), .int v1], (zS I2 J tg))) rfl ?_
    by_cases c7 : v1 = (-1)
    · rw [if_pos c7] at h
      refine Runs.brT (P := v1 = (-1)) (a := 69) (b := 48) (L := [.ref 79, .int x1, .int x2, .int x3, .int x4, .int x5, .int v1]) (S := []) (z := (zS I2 J tg)) rfl c7 ?_
      refine Runs.sN 2 (c' := (25, [.ref 79, .int x1, .int x2, .int x3, .int x4, .int (x5 + 1), .int v1], [], (zS I2 J tg))) rfl ?_
      exact Runs.weak (L := [.ref 79, .int x1, .int x2, .int x3, .int x4, .int (x5 + 1), vU]) (Lle.k (Lle.k (Lle.k (Lle.k (Lle.k (Lle.k (Lle.u Lle.n))))))) h
    · rw [if_neg c7] at h
      refine Runs.brF (P := v1 = (-1)) (a := 69) (b := 48) (L := [.ref 79, .int x1, .int x2, .int x3, .int x4, .int x5, .int v1]) (S := []) (z := (zS I2 J tg)) rfl c7 ?_
      refine Runs.sN 4 (c' := (53, [.ref 79, .int x1, .int x2, .int x3, .int x4, .int x5, .int v1], [.int x3, .int x2, .int v1, .ref 79], (zS I2 J tg))) rfl ?_
      obtain ⟨v3, I4, c8, h⟩ := h
      refine Runs.cl (cm := 12) (as := [.ref 79, .int v1, .int x2, .int x3]) (rest := []) (r1 := ((some (.int v3)), (zS I4 J tg))) rfl (Nat.le_of_ble_eq_true rfl) c8 ?_
      refine Runs.as (c' := (56, [.ref 79, .int x1, .int x2, .int x3, .int x4, .int x5, .int v1], [.int v3], (zS I4 J tg))) rfl ?_
      by_cases c9 : v3 = 0
      · rw [if_pos c9] at h
        refine Runs.brT (P := v3 = 0) (a := 69) (b := 59) (L := [.ref 79, .int x1, .int x2, .int x3, .int x4, .int x5, .int v1]) (S := []) (z := (zS I4 J tg)) rfl c9 ?_
        refine Runs.sN 2 (c' := (25, [.ref 79, .int x1, .int x2, .int x3, .int x4, .int (x5 + 1), .int v1], [], (zS I4 J tg))) rfl ?_
        exact Runs.weak (L := [.ref 79, .int x1, .int x2, .int x3, .int x4, .int (x5 + 1), vU]) (Lle.k (Lle.k (Lle.k (Lle.k (Lle.k (Lle.k (Lle.u Lle.n))))))) h
      · rw [if_neg c9] at h
        refine Runs.brF (P := v3 = 0) (a := 69) (b := 59) (L := [.ref 79, .int x1, .int x2, .int x3, .int x4, .int x5, .int v1]) (S := []) (z := (zS I4 J tg)) rfl c9 ?_
        refine Runs.sN 6 (c' := (68, [.ref 79, .int x1, .int x2, .int x3, .int x4, .int x5, .int v1], [.int 1], (zS (up2 I4 82 0 x4) J tg))) rfl ?_
        subst h
        exact Runs.rt rfl
-- X0_changePart 
theorem sg_11 {L d : Nat} {xs : Nat → Int32} (I : Nat → Nat → Int32) (J : Nat → Nat → Int64) (tg : Option Nat) (a1 : Int32) (a2 : Int32) {r : Option Value × SS} (h : (¬ ((((I 79 7) * 6) + a1) < 0 ∨ 144 ≤ (((I 79 7) * 6) + a1).toNatClampNeg) ∧ (if a2 = 13 then (∃ (v31 : Int32) (I32 : Nat → Nat → Int32), Runs (GW L xs) d 9 (0, [.ref 79, .int (I 79 7), .int (1 <<< (a1 &&& 31)), vU, vU], [], (zS (up2 (up2 I 82 1 2) 82 2 (-1)) J tg)) ((some (.int v31)), (zS I32 J tg)) ∧ r = (some (.int v31), (zS I32 J tg))) else ((if 9 ≤ a2 then (Runs (GW L xs) (d + 1) 11 (61, [.ref 79, .int a1, .int a2, .int (I 2 ((((I 79 7) * 6) + a1).toNatClampNeg)), vU, vU, vU, vU, vU], [.int 0], (zS I J tg)) r) else (Runs (GW L xs) (d + 1) 11 (61, [.ref 79, .int a1, .int a2, .int (I 2 ((((I 79 7) * 6) + a1).toNatClampNeg)), vU, vU, vU, vU, vU], [.int 1], (zS I J tg)) r)))))) : Runs (GW L xs) (d + 1) 11 (0, [.ref 79, .int a1, .int a2, vU, vU, vU, vU, vU, vU], [], (zS I J tg)) r := by
  refine Runs.sN 9 (c' := (16, [.ref 79, .int a1, .int a2, vU, vU, vU, vU, vU, vU], [.int (((I 79 7) * 6) + a1), .ref 2], (zS I J tg))) rfl ?_
  obtain ⟨c33, h⟩ := h
  refine Runs.to (c' := (17, [.ref 79, .int a1, .int a2, vU, vU, vU, vU, vU, vU], [.int (I 2 ((((I 79 7) * 6) + a1).toNatClampNeg))], (zS I J tg))) (Runs.ild rfl (show (2 : Nat) < 114 by decide) rfl c33) ?_
  refine Runs.sN 3 (c' := (21, [.ref 79, .int a1, .int a2, .int (I 2 ((((I 79 7) * 6) + a1).toNatClampNeg)), vU, vU, vU, vU, vU], [.int 13, .int a2], (zS I J tg))) rfl ?_
  by_cases c34 : a2 = 13
  · rw [if_pos c34] at h
    refine Runs.brT (P := a2 = 13) (a := 24) (b := 50) (L := [.ref 79, .int a1, .int a2, .int (I 2 ((((I 79 7) * 6) + a1).toNatClampNeg)), vU, vU, vU, vU, vU]) (S := []) (z := (zS I J tg)) rfl c34 ?_
    refine Runs.sN 16 (c' := (46, [.ref 79, .int a1, .int a2, .int (I 2 ((((I 79 7) * 6) + a1).toNatClampNeg)), vU, vU, vU, vU, vU], [.int (1 <<< (a1 &&& 31)), .int (I 79 7), .ref 79], (zS (up2 (up2 I 82 1 2) 82 2 (-1)) J tg))) rfl ?_
    obtain ⟨v31, I32, c35, h⟩ := h
    refine Runs.cl (cm := 9) (as := [.ref 79, .int (I 79 7), .int (1 <<< (a1 &&& 31))]) (rest := []) (r1 := ((some (.int v31)), (zS I32 J tg))) rfl (Nat.le_of_ble_eq_true rfl) c35 ?_
    refine Runs.as (c' := (49, [.ref 79, .int a1, .int a2, .int (I 2 ((((I 79 7) * 6) + a1).toNatClampNeg)), vU, vU, vU, vU, vU], [.int v31], (zS I32 J tg))) rfl ?_
    subst h
    exact Runs.rt rfl
  · rw [if_neg c34] at h
    refine Runs.brF (P := a2 = 13) (a := 24) (b := 50) (L := [.ref 79, .int a1, .int a2, .int (I 2 ((((I 79 7) * 6) + a1).toNatClampNeg)), vU, vU, vU, vU, vU]) (S := []) (z := (zS I J tg)) rfl c34 ?_
    refine Runs.sN 2 (c' := (53, [.ref 79, .int a1, .int a2, .int (I 2 ((((I 79 7) * 6) + a1).toNatClampNeg)), vU, vU, vU, vU, vU], [.int 9, .int a2], (zS I J tg))) rfl ?_
    by_cases c36 : 9 ≤ a2
    · rw [if_pos c36] at h
      refine Runs.brT (P := 9 ≤ a2) (a := 60) (b := 56) (L := [.ref 79, .int a1, .int a2, .int (I 2 ((((I 79 7) * 6) + a1).toNatClampNeg)), vU, vU, vU, vU, vU]) (S := []) (z := (zS I J tg)) rfl c36 ?_
      refine Runs.sN 1 (c' := (61, [.ref 79, .int a1, .int a2, .int (I 2 ((((I 79 7) * 6) + a1).toNatClampNeg)), vU, vU, vU, vU, vU], [.int 0], (zS I J tg))) rfl ?_
      exact h
    · rw [if_neg c36] at h
      refine Runs.brF (P := 9 ≤ a2) (a := 60) (b := 56) (L := [.ref 79, .int a1, .int a2, .int (I 2 ((((I 79 7) * 6) + a1).toNatClampNeg)), vU, vU, vU, vU, vU]) (S := []) (z := (zS I J tg)) rfl c36 ?_
      refine Runs.sN 2 (c' := (61, [.ref 79, .int a1, .int a2, .int (I 2 ((((I 79 7) * 6) + a1).toNatClampNeg)), vU, vU, vU, vU, vU], [.int 1], (zS I J tg))) rfl ?_
      exact h
theorem sg_11_61 {L d : Nat} {xs : Nat → Int32} (I : Nat → Nat → Int32) (J : Nat → Nat → Int64) (tg : Option Nat) (x1 : Int32) (x2 : Int32) (x3 : Int32) (y0 : Int32) {r : Option Value × SS} (h : ((if y0 = 0 then (Runs (GW L xs) (d + 1) 11 (78, [.ref 79, .int x1, .int x2, .int x3, .int y0, vU, vU, vU, vU], [.int 1, .int 1, .ref 82], (zS I J tg)) r) else (Runs (GW L xs) (d + 1) 11 (78, [.ref 79, .int x1, .int x2, .int x3, .int y0, vU, vU, vU, vU], [.int 0, .int 1, .ref 82], (zS I J tg)) r)))) : Runs (GW L xs) (d + 1) 11 (61, [.ref 79, .int x1, .int x2, .int x3, vU, vU, vU, vU, vU], [.int y0], (zS I J tg)) r := by
  refine Runs.sN 5 (c' := (70, [.ref 79, .int x1, .int x2, .int x3, .int y0, vU, vU, vU, vU], [.int y0, .int 1, .ref 82], (zS I J tg))) rfl ?_
  by_cases c1 : y0 = 0
  · rw [if_pos c1] at h
    refine Runs.brT (P := y0 = 0) (a := 77) (b := 73) (L := [.ref 79, .int x1, .int x2, .int x3, .int y0, vU, vU, vU, vU]) (S := [.int 1, .ref 82]) (z := (zS I J tg)) rfl c1 ?_
    refine Runs.sN 1 (c' := (78, [.ref 79, .int x1, .int x2, .int x3, .int y0, vU, vU, vU, vU], [.int 1, .int 1, .ref 82], (zS I J tg))) rfl ?_
    exact h
  · rw [if_neg c1] at h
    refine Runs.brF (P := y0 = 0) (a := 77) (b := 73) (L := [.ref 79, .int x1, .int x2, .int x3, .int y0, vU, vU, vU, vU]) (S := [.int 1, .ref 82]) (z := (zS I J tg)) rfl c1 ?_
    refine Runs.sN 2 (c' := (78, [.ref 79, .int x1, .int x2, .int x3, .int y0, vU, vU, vU, vU], [.int 0, .int 1, .ref 82], (zS I J tg))) rfl ?_
    exact h
theorem sg_11_78 {L d : Nat} {xs : Nat → Int32} (I : Nat → Nat → Int32) (J : Nat → Nat → Int64) (tg : Option Nat) (x1 : Int32) (x2 : Int32) (x3 : Int32) (x4 : Int32) (y1 : Int32) (y2 : Int32) {r : Option Value × SS} (h : (¬ (y1 < 0 ∨ 4 ≤ (y1).toNatClampNeg) ∧ (if x4 = 0 then (Runs (GW L xs) (d + 1) 11 (97, [.ref 79, .int x1, .int x2, .int x3, .int x4, vU, vU, vU, vU], [.int (x2 - 9), .int 2, .ref 82], (zS (up2 I 82 ((y1).toNatClampNeg) y2) J tg)) r) else (Runs (GW L xs) (d + 1) 11 (97, [.ref 79, .int x1, .int x2, .int x3, .int x4, vU, vU, vU, vU], [.int x2, .int 2, .ref 82], (zS (up2 I 82 ((y1).toNatClampNeg) y2) J tg)) r)))) : Runs (GW L xs) (d + 1) 11 (78, [.ref 79, .int x1, .int x2, .int x3, .int x4, vU, vU, vU, vU], [.int y2, .int y1, .ref 82], (zS I J tg)) r := by
  obtain ⟨c1, h⟩ := h
  refine Runs.to (c' := (79, [.ref 79, .int x1, .int x2, .int x3, .int x4, vU, vU, vU, vU], [], (zS (up2 I 82 ((y1).toNatClampNeg) y2) J tg))) (Runs.ist rfl (show (82 : Nat) < 114 by decide) rfl c1) ?_
  refine Runs.sN 4 (c' := (86, [.ref 79, .int x1, .int x2, .int x3, .int x4, vU, vU, vU, vU], [.int x4, .int 2, .ref 82], (zS (up2 I 82 ((y1).toNatClampNeg) y2) J tg))) rfl ?_
  by_cases c2 : x4 = 0
  · rw [if_pos c2] at h
    refine Runs.brT (P := x4 = 0) (a := 93) (b := 89) (L := [.ref 79, .int x1, .int x2, .int x3, .int x4, vU, vU, vU, vU]) (S := [.int 2, .ref 82]) (z := (zS (up2 I 82 ((y1).toNatClampNeg) y2) J tg)) rfl c2 ?_
    refine Runs.sN 3 (c' := (97, [.ref 79, .int x1, .int x2, .int x3, .int x4, vU, vU, vU, vU], [.int (x2 - 9), .int 2, .ref 82], (zS (up2 I 82 ((y1).toNatClampNeg) y2) J tg))) rfl ?_
    exact h
  · rw [if_neg c2] at h
    refine Runs.brF (P := x4 = 0) (a := 93) (b := 89) (L := [.ref 79, .int x1, .int x2, .int x3, .int x4, vU, vU, vU, vU]) (S := [.int 2, .ref 82]) (z := (zS (up2 I 82 ((y1).toNatClampNeg) y2) J tg)) rfl c2 ?_
    refine Runs.sN 2 (c' := (97, [.ref 79, .int x1, .int x2, .int x3, .int x4, vU, vU, vU, vU], [.int x2, .int 2, .ref 82], (zS (up2 I 82 ((y1).toNatClampNeg) y2) J tg))) rfl ?_
    exact h
theorem sg_11_97 {L d : Nat} {xs : Nat → Int32} (I : Nat → Nat → Int32) (J : Nat → Nat → Int64) (tg : Option Nat) (x1 : Int32) (x2 : Int32) (x3 : Int32) (x4 : Int32) (y1 : Int32) (y2 : Int32) {r : Option Value × SS} (h : (¬ (y1 < 0 ∨ 4 ≤ (y1).toNatClampNeg) ∧ (if x4 = 0 then (∃ (v1 : Int32) (I2 : Nat → Nat → Int32), Runs (GW L xs) d 171 (0, [.int x3], [], (zS (up2 I 82 ((y1).toNatClampNeg) y2) J tg)) ((some (.int v1)), (zS I2 J tg)) ∧ Runs (GW L xs) (d + 1) 11 (111, [.ref 79, .int x1, .int x2, .int x3, .int x4, vU, vU, vU, vU], [.int v1], (zS I2 J tg)) r) else (Runs (GW L xs) (d + 1) 11 (111, [.ref 79, .int x1, .int x2, .int x3, .int x4, vU, vU, vU, vU], [.int x2], (zS (up2 I 82 ((y1).toNatClampNeg) y2) J tg)) r)))) : Runs (GW L xs) (d + 1) 11 (97, [.ref 79, .int x1, .int x2, .int x3, .int x4, vU, vU, vU, vU], [.int y2, .int y1, .ref 82], (zS I J tg)) r := by
  obtain ⟨c3, h⟩ := h
  refine Runs.to (c' := (98, [.ref 79, .int x1, .int x2, .int x3, .int x4, vU, vU, vU, vU], [], (zS (up2 I 82 ((y1).toNatClampNeg) y2) J tg))) (Runs.ist rfl (show (82 : Nat) < 114 by decide) rfl c3) ?_
  refine Runs.sN 1 (c' := (100, [.ref 79, .int x1, .int x2, .int x3, .int x4, vU, vU, vU, vU], [.int x4], (zS (up2 I 82 ((y1).toNatClampNeg) y2) J tg))) rfl ?_
  by_cases c4 : x4 = 0
  · rw [if_pos c4] at h
    refine Runs.brT (P := x4 = 0) (a := 107) (b := 103) (L := [.ref 79, .int x1, .int x2, .int x3, .int x4, vU, vU, vU, vU]) (S := []) (z := (zS (up2 I 82 ((y1).toNatClampNeg) y2) J tg)) rfl c4 ?_
    refine Runs.sN 1 (c' := (108, [.ref 79, .int x1, .int x2, .int x3, .int x4, vU, vU, vU, vU], [.int x3], (zS (up2 I 82 ((y1).toNatClampNeg) y2) J tg))) rfl ?_
    obtain ⟨v1, I2, c5, h⟩ := h
    refine Runs.cl (cm := 171) (as := [.int x3]) (rest := []) (r1 := ((some (.int v1)), (zS I2 J tg))) rfl (Nat.le_of_ble_eq_true rfl) c5 ?_
    refine Runs.as (c' := (111, [.ref 79, .int x1, .int x2, .int x3, .int x4, vU, vU, vU, vU], [.int v1], (zS I2 J tg))) rfl ?_
    exact h
  · rw [if_neg c4] at h
    refine Runs.brF (P := x4 = 0) (a := 107) (b := 103) (L := [.ref 79, .int x1, .int x2, .int x3, .int x4, vU, vU, vU, vU]) (S := []) (z := (zS (up2 I 82 ((y1).toNatClampNeg) y2) J tg)) rfl c4 ?_
    refine Runs.sN 2 (c' := (111, [.ref 79, .int x1, .int x2, .int x3, .int x4, vU, vU, vU, vU], [.int x2], (zS (up2 I 82 ((y1).toNatClampNeg) y2) J tg))) rfl ?_
    exact h
theorem sg_11_111 {L d : Nat} {xs : Nat → Int32} (I : Nat → Nat → Int32) (J : Nat → Nat → Int64) (tg : Option Nat) (x1 : Int32) (x2 : Int32) (x3 : Int32) (x4 : Int32) (y0 : Int32) {r : Option Value × SS} (h : ((if x4 = 0 then (Runs (GW L xs) (d + 1) 11 (129, [.ref 79, .int x1, .int x2, .int x3, .int x4, .int y0, vU, vU, vU], [.int (x2 - 9)], (zS I J tg)) r) else (∃ (v1 : Int32) (I2 : Nat → Nat → Int32), Runs (GW L xs) d 172 (0, [.int x3], [], (zS I J tg)) ((some (.int v1)), (zS I2 J tg)) ∧ Runs (GW L xs) (d + 1) 11 (129, [.ref 79, .int x1, .int x2, .int x3, .int x4, .int y0, vU, vU, vU], [.int v1], (zS I2 J tg)) r)))) : Runs (GW L xs) (d + 1) 11 (111, [.ref 79, .int x1, .int x2, .int x3, .int x4, vU, vU, vU, vU], [.int y0], (zS I J tg)) r := by
  refine Runs.sN 2 (c' := (115, [.ref 79, .int x1, .int x2, .int x3, .int x4, .int y0, vU, vU, vU], [.int x4], (zS I J tg))) rfl ?_
  by_cases c3 : x4 = 0
  · rw [if_pos c3] at h
    refine Runs.brT (P := x4 = 0) (a := 125) (b := 118) (L := [.ref 79, .int x1, .int x2, .int x3, .int x4, .int y0, vU, vU, vU]) (S := []) (z := (zS I J tg)) rfl c3 ?_
    refine Runs.sN 3 (c' := (129, [.ref 79, .int x1, .int x2, .int x3, .int x4, .int y0, vU, vU, vU], [.int (x2 - 9)], (zS I J tg))) rfl ?_
    exact h
  · rw [if_neg c3] at h
    refine Runs.brF (P := x4 = 0) (a := 125) (b := 118) (L := [.ref 79, .int x1, .int x2, .int x3, .int x4, .int y0, vU, vU, vU]) (S := []) (z := (zS I J tg)) rfl c3 ?_
    refine Runs.sN 1 (c' := (119, [.ref 79, .int x1, .int x2, .int x3, .int x4, .int y0, vU, vU, vU], [.int x3], (zS I J tg))) rfl ?_
    obtain ⟨v1, I2, c4, h⟩ := h
    refine Runs.cl (cm := 172) (as := [.int x3]) (rest := []) (r1 := ((some (.int v1)), (zS I2 J tg))) rfl (Nat.le_of_ble_eq_true rfl) c4 ?_
    refine Runs.as (c' := (122, [.ref 79, .int x1, .int x2, .int x3, .int x4, .int y0, vU, vU, vU], [.int v1], (zS I2 J tg))) rfl ?_
    refine Runs.sN 1 (c' := (129, [.ref 79, .int x1, .int x2, .int x3, .int x4, .int y0, vU, vU, vU], [.int v1], (zS I2 J tg))) rfl ?_
    exact h
theorem sg_11_129 {L d : Nat} {xs : Nat → Int32} (I : Nat → Nat → Int32) (J : Nat → Nat → Int64) (tg : Option Nat) (x1 : Int32) (x2 : Int32) (x3 : Int32) (x4 : Int32) (x5 : Int32) (y0 : Int32) {r : Option Value × SS} (h : (∃ (v1 : Int32) (I2 : Nat → Nat → Int32), Runs (GW L xs) d 170 (0, [.int x3], [], (zS I J tg)) ((some (.int v1)), (zS I2 J tg)) ∧ ∃ (v3 : Int32) (I4 : Nat → Nat → Int32), Runs (GW L xs) d 169 (0, [.int v1, .int x5, .int y0], [], (zS I2 J tg)) ((some (.int v3)), (zS I4 J tg)) ∧ ∃ (v5 : Int32) (I6 : Nat → Nat → Int32), Runs (GW L xs) d 9 (0, [.ref 79, .int (I4 79 7), .int 0, vU, vU], [], (zS I4 J tg)) ((some (.int v5)), (zS I6 J tg)) ∧ ∃ (v7 : Int32) (I8 : Nat → Nat → Int32), Runs (GW L xs) d 173 (0, [.ref 80, .int 0, .int v5, .int v3, vU], [], (zS I6 J tg)) ((some (.int v7)), (zS I8 J tg)) ∧ (if v7 = 0 then (¬ (x1 < 0 ∨ 6 ≤ (x1).toNatClampNeg) ∧ r = (some (.int v5), (zS (up2 I8 80 ((x1).toNatClampNeg) v3) J tg))) else (r = (some (.int (-1)), (zS I8 J tg)))))) : Runs (GW L xs) (d + 1) 11 (129, [.ref 79, .int x1, .int x2, .int x3, .int x4, .int x5, vU, vU, vU], [.int y0], (zS I J tg)) r := by
  refine Runs.sN 2 (c' := (132, [.ref 79, .int x1, .int x2, .int x3, .int x4, .int x5, .int y0, vU, vU], [.int x3], (zS I J tg))) rfl ?_
  obtain ⟨v1, I2, c9, h⟩ := h
  refine Runs.cl (cm := 170) (as := [.int x3]) (rest := []) (r1 := ((some (.int v1)), (zS I2 J tg))) rfl (Nat.le_of_ble_eq_true rfl) c9 ?_
  refine Runs.as (c' := (135, [.ref 79, .int x1, .int x2, .int x3, .int x4, .int x5, .int y0, vU, vU], [.int v1], (zS I2 J tg))) rfl ?_
  refine Runs.sN 2 (c' := (139, [.ref 79, .int x1, .int x2, .int x3, .int x4, .int x5, .int y0, vU, vU], [.int y0, .int x5, .int v1], (zS I2 J tg))) rfl ?_
  obtain ⟨v3, I4, c10, h⟩ := h
  refine Runs.cl (cm := 169) (as := [.int v1, .int x5, .int y0]) (rest := []) (r1 := ((some (.int v3)), (zS I4 J tg))) rfl (Nat.le_of_ble_eq_true rfl) c10 ?_
  refine Runs.as (c' := (142, [.ref 79, .int x1, .int x2, .int x3, .int x4, .int x5, .int y0, vU, vU], [.int v3], (zS I4 J tg))) rfl ?_
  refine Runs.sN 5 (c' := (150, [.ref 79, .int x1, .int x2, .int x3, .int x4, .int x5, .int y0, .int v3, vU], [.int 0, .int (I4 79 7), .ref 79], (zS I4 J tg))) rfl ?_
  obtain ⟨v5, I6, c11, h⟩ := h
  refine Runs.cl (cm := 9) (as := [.ref 79, .int (I4 79 7), .int 0]) (rest := []) (r1 := ((some (.int v5)), (zS I6 J tg))) rfl (Nat.le_of_ble_eq_true rfl) c11 ?_
  refine Runs.as (c' := (153, [.ref 79, .int x1, .int x2, .int x3, .int x4, .int x5, .int y0, .int v3, vU], [.int v5], (zS I6 J tg))) rfl ?_
  refine Runs.sN 6 (c' := (164, [.ref 79, .int x1, .int x2, .int x3, .int x4, .int x5, .int y0, .int v3, .int v5], [.int v3, .int v5, .int 0, .ref 80], (zS I6 J tg))) rfl ?_
  obtain ⟨v7, I8, c12, h⟩ := h
  refine Runs.cl (cm := 173) (as := [.ref 80, .int 0, .int v5, .int v3]) (rest := []) (r1 := ((some (.int v7)), (zS I8 J tg))) rfl (Nat.le_of_ble_eq_true rfl) c12 ?_
  refine Runs.as (c' := (167, [.ref 79, .int x1, .int x2, .int x3, .int x4, .int x5, .int y0, .int v3, .int v5], [.int v7], (zS I8 J tg))) rfl ?_
  by_cases c13 : v7 = 0
  · rw [if_pos c13] at h
    refine Runs.brT (P := v7 = 0) (a := 172) (b := 170) (L := [.ref 79, .int x1, .int x2, .int x3, .int x4, .int x5, .int y0, .int v3, .int v5]) (S := []) (z := (zS I8 J tg)) rfl c13 ?_
    refine Runs.sN 4 (c' := (179, [.ref 79, .int x1, .int x2, .int x3, .int x4, .int x5, .int y0, .int v3, .int v5], [.int v3, .int x1, .ref 80], (zS I8 J tg))) rfl ?_
    obtain ⟨c14, h⟩ := h
    refine Runs.to (c' := (180, [.ref 79, .int x1, .int x2, .int x3, .int x4, .int x5, .int y0, .int v3, .int v5], [], (zS (up2 I8 80 ((x1).toNatClampNeg) v3) J tg))) (Runs.ist rfl (show (80 : Nat) < 114 by decide) rfl c14) ?_
    refine Runs.sN 1 (c' := (182, [.ref 79, .int x1, .int x2, .int x3, .int x4, .int x5, .int y0, .int v3, .int v5], [.int v5], (zS (up2 I8 80 ((x1).toNatClampNeg) v3) J tg))) rfl ?_
    subst h
    exact Runs.rt rfl
  · rw [if_neg c13] at h
    refine Runs.brF (P := v7 = 0) (a := 172) (b := 170) (L := [.ref 79, .int x1, .int x2, .int x3, .int x4, .int x5, .int y0, .int v3, .int v5]) (S := []) (z := (zS I8 J tg)) rfl c13 ?_
    refine Runs.sN 1 (c' := (171, [.ref 79, .int x1, .int x2, .int x3, .int x4, .int x5, .int y0, .int v3, .int v5], [.int (-1)], (zS I8 J tg))) rfl ?_
    subst h
    exact Runs.rt rfl
-- X0_isApart 
theorem sg_12 {L d : Nat} {xs : Nat → Int32} (I : Nat → Nat → Int32) (J : Nat → Nat → Int64) (tg : Option Nat) (a1 : Int32) (a2 : Int32) (a3 : Int32) {r : Option Value × SS} (h : (¬ ((I 79 7) < 0 ∨ 24 ≤ (I 79 7).toNatClampNeg) ∧ ∃ (v6 : Int32) (I7 : Nat → Nat → Int32), Runs (GW L xs) d 63 (0, [.ref 70, .ref 80, .int 0, .int a1, .int (I 4 ((I 79 7).toNatClampNeg)), .int a2, vU], [], (zS I J tg)) ((some (.int v6)), (zS I7 J tg)) ∧ (if a3 ≤ v6 then (∃ (I8 : Nat → Nat → Int32), Runs (GW L xs) d 97 (0, [.ref 75, .int (I7 79 7), .int 0, .ref 80, .int 0, .int a1, vU], [], (zS (up2 I7 82 3 v6) J tg)) (none, (zS I8 J tg)) ∧ ∃ (v9 : Int32) (I10 : Nat → Nat → Int32), Runs (GW L xs) d 99 (0, [.ref 75], [], (zS I8 J tg)) ((some (.int v9)), (zS I10 J tg)) ∧ (v9 = 0 ∨ v9 = 1) ∧ r = (some (.int v9), (zS I10 J tg))) else (r = (some (.int 0), (zS (up2 I7 82 3 v6) J tg)))))) : Runs (GW L xs) (d + 1) 12 (0, [.ref 79, .int a1, .int a2, .int a3], [], (zS I J tg)) r := by
  refine Runs.sN 14 (c' := (26, [.ref 79, .int a1, .int a2, .int a3], [.int (I 79 7), .ref 4, .int a1, .int 0, .ref 80, .ref 70, .int 3, .ref 82], (zS I J tg))) rfl ?_
  obtain ⟨c11, h⟩ := h
  refine Runs.to (c' := (27, [.ref 79, .int a1, .int a2, .int a3], [.int (I 4 ((I 79 7).toNatClampNeg)), .int a1, .int 0, .ref 80, .ref 70, .int 3, .ref 82], (zS I J tg))) (Runs.ild rfl (show (4 : Nat) < 114 by decide) rfl c11) ?_
  refine Runs.sN 1 (c' := (28, [.ref 79, .int a1, .int a2, .int a3], [.int a2, .int (I 4 ((I 79 7).toNatClampNeg)), .int a1, .int 0, .ref 80, .ref 70, .int 3, .ref 82], (zS I J tg))) rfl ?_
  obtain ⟨v6, I7, c12, h⟩ := h
  refine Runs.cl (cm := 63) (as := [.ref 70, .ref 80, .int 0, .int a1, .int (I 4 ((I 79 7).toNatClampNeg)), .int a2]) (rest := [.int 3, .ref 82]) (r1 := ((some (.int v6)), (zS I7 J tg))) rfl (Nat.le_of_ble_eq_true rfl) c12 ?_
  refine Runs.as (c' := (31, [.ref 79, .int a1, .int a2, .int a3], [.int v6, .int 3, .ref 82], (zS I7 J tg))) rfl ?_
  refine Runs.sN 6 (c' := (39, [.ref 79, .int a1, .int a2, .int a3], [.int a3, .int v6], (zS (up2 I7 82 3 v6) J tg))) rfl ?_
  by_cases c13 : a3 ≤ v6
  · rw [if_pos c13] at h
    refine Runs.brT (P := a3 ≤ v6) (a := 44) (b := 42) (L := [.ref 79, .int a1, .int a2, .int a3]) (S := []) (z := (zS (up2 I7 82 3 v6) J tg)) rfl c13 ?_
    refine Runs.sN 9 (c' := (59, [.ref 79, .int a1, .int a2, .int a3], [.int a1, .int 0, .ref 80, .int 0, .int (I7 79 7), .ref 75], (zS (up2 I7 82 3 v6) J tg))) rfl ?_
    obtain ⟨I8, c14, h⟩ := h
    refine Runs.cl (cm := 97) (as := [.ref 75, .int (I7 79 7), .int 0, .ref 80, .int 0, .int a1]) (rest := []) (r1 := (none, (zS I8 J tg))) rfl (Nat.le_of_ble_eq_true rfl) c14 ?_
    refine Runs.as (c' := (62, [.ref 79, .int a1, .int a2, .int a3], [], (zS I8 J tg))) rfl ?_
    refine Runs.sN 2 (c' := (66, [.ref 79, .int a1, .int a2, .int a3], [.ref 75], (zS I8 J tg))) rfl ?_
    obtain ⟨v9, I10, c15, h⟩ := h
    refine Runs.cl (cm := 99) (as := [.ref 75]) (rest := []) (r1 := ((some (.int v9)), (zS I10 J tg))) rfl (Nat.le_of_ble_eq_true rfl) c15 ?_
    refine Runs.as (c' := (69, [.ref 79, .int a1, .int a2, .int a3], [.int v9], (zS I10 J tg))) rfl ?_
    obtain ⟨h0, h⟩ := h
    subst h
    exact Runs.zrt rfl rfl h0
  · rw [if_neg c13] at h
    refine Runs.brF (P := a3 ≤ v6) (a := 44) (b := 42) (L := [.ref 79, .int a1, .int a2, .int a3]) (S := []) (z := (zS (up2 I7 82 3 v6) J tg)) rfl c13 ?_
    refine Runs.sN 1 (c' := (43, [.ref 79, .int a1, .int a2, .int a3], [.int 0], (zS (up2 I7 82 3 v6) J tg))) rfl ?_
    subst h
    exact Runs.rt rfl
-- X1_seekNearest 
theorem sg_14 {L d : Nat} {xs : Nat → Int32} (I : Nat → Nat → Int32) (J : Nat → Nat → Int64) (tg : Option Nat) (a1 : Int32) {r : Option Value × SS} (h : (Runs (GW L xs) (d + 1) 14 (7, [.ref 83, .int a1, .int 0, vU, vU], [], (zS (up2 I 83 6 (-1)) J tg)) r)) : Runs (GW L xs) (d + 1) 14 (0, [.ref 83, .int a1, vU, vU, vU], [], (zS I J tg)) r := by
  refine Runs.sN 5 (c' := (7, [.ref 83, .int a1, .int 0, vU, vU], [], (zS (up2 I 83 6 (-1)) J tg))) rfl ?_
  exact h
theorem sg_14_7 {L d : Nat} {xs : Nat → Int32} (I : Nat → Nat → Int32) (J : Nat → Nat → Int64) (tg : Option Nat) (x1 : Int32) (x2 : Int32) {r : Option Value × SS} (h : ((if 12 ≤ x2 then (r = (none, (zS I J tg))) else (Runs (GW L xs) (d + 1) 14 (17, [.ref 83, .int x1, .int x2, .int (x2 + 1), vU], [], (zS I J tg)) r)))) : Runs (GW L xs) (d + 1) 14 (7, [.ref 83, .int x1, .int x2, vU, vU], [], (zS I J tg)) r := by
  refine Runs.sN 2 (c' := (10, [.ref 83, .int x1, .int x2, vU, vU], [.int 12, .int x2], (zS I J tg))) rfl ?_
  by_cases c1 : 12 ≤ x2
  · rw [if_pos c1] at h
    refine Runs.brT (P := 12 ≤ x2) (a := 94) (b := 13) (L := [.ref 83, .int x1, .int x2, vU, vU]) (S := []) (z := (zS I J tg)) rfl c1 ?_
    subst h
    exact Runs.rt rfl
  · rw [if_neg c1] at h
    refine Runs.brF (P := 12 ≤ x2) (a := 94) (b := 13) (L := [.ref 83, .int x1, .int x2, vU, vU]) (S := []) (z := (zS I J tg)) rfl c1 ?_
    refine Runs.sN 4 (c' := (17, [.ref 83, .int x1, .int x2, .int (x2 + 1), vU], [], (zS I J tg))) rfl ?_
    exact h
theorem sg_14_17 {L d : Nat} {xs : Nat → Int32} (I : Nat → Nat → Int32) (J : Nat → Nat → Int64) (tg : Option Nat) (x1 : Int32) (x2 : Int32) (x3 : Int32) {r : Option Value × SS} (h : ((if 12 ≤ x3 then (Runs (GW L xs) (d + 1) 14 (7, [.ref 83, .int x1, .int (x2 + 1), vU, vU], [], (zS I J tg)) r) else ((if (((x1 >>> (x2 &&& 31)) &&& (x1 >>> (x3 &&& 31))) &&& 1) = 0 then (Runs (GW L xs) (d + 1) 14 (17, [.ref 83, .int x1, .int x2, .int (x3 + 1), vU], [], (zS I J tg)) r) else (∃ (v1 : Int32) (I2 : Nat → Nat → Int32), Runs (GW L xs) d 62 (0, [.ref 70, .int x2, .int x3, vU], [], (zS I J tg)) ((some (.int v1)), (zS I2 J tg)) ∧ (if (I2 83 6) = (-1) then (Runs (GW L xs) (d + 1) 14 (17, [.ref 83, .int x1, .int x2, .int (x3 + 1), vU], [], (zS (up2 (up2 (up2 I2 83 6 v1) 83 7 x2) 83 8 x3) J tg)) r) else ((if (I2 83 6) ≤ v1 then (Runs (GW L xs) (d + 1) 14 (17, [.ref 83, .int x1, .int x2, .int (x3 + 1), vU], [], (zS I2 J tg)) r) else (Runs (GW L xs) (d + 1) 14 (17, [.ref 83, .int x1, .int x2, .int (x3 + 1), vU], [], (zS (up2 (up2 (up2 I2 83 6 v1) 83 7 x2) 83 8 x3) J tg)) r)))))))))) : Runs (GW L xs) (d + 1) 14 (17, [.ref 83, .int x1, .int x2, .int x3, vU], [], (zS I J tg)) r := by
  refine Runs.sN 2 (c' := (20, [.ref 83, .int x1, .int x2, .int x3, vU], [.int 12, .int x3], (zS I J tg))) rfl ?_
  by_cases c3 : 12 ≤ x3
  · rw [if_pos c3] at h
    refine Runs.brT (P := 12 ≤ x3) (a := 88) (b := 23) (L := [.ref 83, .int x1, .int x2, .int x3, vU]) (S := []) (z := (zS I J tg)) rfl c3 ?_
    refine Runs.sN 2 (c' := (7, [.ref 83, .int x1, .int (x2 + 1), .int x3, vU], [], (zS I J tg))) rfl ?_
    exact Runs.weak (L := [.ref 83, .int x1, .int (x2 + 1), vU, vU]) (Lle.k (Lle.k (Lle.k (Lle.u (Lle.k Lle.n))))) h
  · rw [if_neg c3] at h
    refine Runs.brF (P := 12 ≤ x3) (a := 88) (b := 23) (L := [.ref 83, .int x1, .int x2, .int x3, vU]) (S := []) (z := (zS I J tg)) rfl c3 ?_
    refine Runs.sN 9 (c' := (32, [.ref 83, .int x1, .int x2, .int x3, vU], [.int (((x1 >>> (x2 &&& 31)) &&& (x1 >>> (x3 &&& 31))) &&& 1)], (zS I J tg))) rfl ?_
    by_cases c4 : (((x1 >>> (x2 &&& 31)) &&& (x1 >>> (x3 &&& 31))) &&& 1) = 0
    · rw [if_pos c4] at h
      refine Runs.brT (P := (((x1 >>> (x2 &&& 31)) &&& (x1 >>> (x3 &&& 31))) &&& 1) = 0) (a := 35) (b := 38) (L := [.ref 83, .int x1, .int x2, .int x3, vU]) (S := []) (z := (zS I J tg)) rfl c4 ?_
      refine Runs.sN 3 (c' := (17, [.ref 83, .int x1, .int x2, .int (x3 + 1), vU], [], (zS I J tg))) rfl ?_
      exact h
    · rw [if_neg c4] at h
      refine Runs.brF (P := (((x1 >>> (x2 &&& 31)) &&& (x1 >>> (x3 &&& 31))) &&& 1) = 0) (a := 35) (b := 38) (L := [.ref 83, .int x1, .int x2, .int x3, vU]) (S := []) (z := (zS I J tg)) rfl c4 ?_
      refine Runs.sN 4 (c' := (44, [.ref 83, .int x1, .int x2, .int x3, vU], [.int x3, .int x2, .ref 70], (zS I J tg))) rfl ?_
      obtain ⟨v1, I2, c5, h⟩ := h
      refine Runs.cl (cm := 62) (as := [.ref 70, .int x2, .int x3]) (rest := []) (r1 := ((some (.int v1)), (zS I2 J tg))) rfl (Nat.le_of_ble_eq_true rfl) c5 ?_
      refine Runs.as (c' := (47, [.ref 83, .int x1, .int x2, .int x3, vU], [.int v1], (zS I2 J tg))) rfl ?_
      refine Runs.sN 4 (c' := (54, [.ref 83, .int x1, .int x2, .int x3, .int v1], [.int (-1), .int (I2 83 6)], (zS I2 J tg))) rfl ?_
      by_cases c6 : (I2 83 6) = (-1)
      · rw [if_pos c6] at h
        refine Runs.brT (P := (I2 83 6) = (-1)) (a := 66) (b := 57) (L := [.ref 83, .int x1, .int x2, .int x3, .int v1]) (S := []) (z := (zS I2 J tg)) rfl c6 ?_
        refine Runs.sN 11 (c' := (17, [.ref 83, .int x1, .int x2, .int (x3 + 1), .int v1], [], (zS (up2 (up2 (up2 I2 83 6 v1) 83 7 x2) 83 8 x3) J tg))) rfl ?_
        exact Runs.weak (L := [.ref 83, .int x1, .int x2, .int (x3 + 1), vU]) (Lle.k (Lle.k (Lle.k (Lle.k (Lle.u Lle.n))))) h
      · rw [if_neg c6] at h
        refine Runs.brF (P := (I2 83 6) = (-1)) (a := 66) (b := 57) (L := [.ref 83, .int x1, .int x2, .int x3, .int v1]) (S := []) (z := (zS I2 J tg)) rfl c6 ?_
        refine Runs.sN 3 (c' := (63, [.ref 83, .int x1, .int x2, .int x3, .int v1], [.int (I2 83 6), .int v1], (zS I2 J tg))) rfl ?_
        by_cases c7 : (I2 83 6) ≤ v1
        · rw [if_pos c7] at h
          refine Runs.brT (P := (I2 83 6) ≤ v1) (a := 82) (b := 66) (L := [.ref 83, .int x1, .int x2, .int x3, .int v1]) (S := []) (z := (zS I2 J tg)) rfl c7 ?_
          refine Runs.sN 2 (c' := (17, [.ref 83, .int x1, .int x2, .int (x3 + 1), .int v1], [], (zS I2 J tg))) rfl ?_
          exact Runs.weak (L := [.ref 83, .int x1, .int x2, .int (x3 + 1), vU]) (Lle.k (Lle.k (Lle.k (Lle.k (Lle.u Lle.n))))) h
        · rw [if_neg c7] at h
          refine Runs.brF (P := (I2 83 6) ≤ v1) (a := 82) (b := 66) (L := [.ref 83, .int x1, .int x2, .int x3, .int v1]) (S := []) (z := (zS I2 J tg)) rfl c7 ?_
          refine Runs.sN 11 (c' := (17, [.ref 83, .int x1, .int x2, .int (x3 + 1), .int v1], [], (zS (up2 (up2 (up2 I2 83 6 v1) 83 7 x2) 83 8 x3) J tg))) rfl ?_
          exact Runs.weak (L := [.ref 83, .int x1, .int x2, .int (x3 + 1), vU]) (Lle.k (Lle.k (Lle.k (Lle.k (Lle.u Lle.n))))) h
-- X1_seekChoice 
theorem sg_15 {L d : Nat} {xs : Nat → Int32} (I : Nat → Nat → Int32) (J : Nat → Nat → Int64) (tg : Option Nat) {r : Option Value × SS} (h : (∃ (I2 : Nat → Nat → Int32), Runs (GW L xs) d 16 (0, [.ref 83, .int 0, .int 1000000, vU, vU], [], (zS (up2 I 83 4 (-1)) J tg)) (none, (zS I2 J tg)) ∧ r = (none, (zS I2 J tg)))) : Runs (GW L xs) (d + 1) 15 (0, [.ref 83], [], (zS I J tg)) r := by
  refine Runs.sN 6 (c' := (9, [.ref 83], [.int 1000000, .int 0, .ref 83], (zS (up2 I 83 4 (-1)) J tg))) rfl ?_
  obtain ⟨I2, c3, h⟩ := h
  refine Runs.cl (cm := 16) (as := [.ref 83, .int 0, .int 1000000]) (rest := []) (r1 := (none, (zS I2 J tg))) rfl (Nat.le_of_ble_eq_true rfl) c3 ?_
  refine Runs.as (c' := (12, [.ref 83], [], (zS I2 J tg))) rfl ?_
  subst h
  exact Runs.rt rfl
-- X1_choose 
theorem sg_16 {L d : Nat} {xs : Nat → Int32} (I : Nat → Nat → Int32) (J : Nat → Nat → Int64) (tg : Option Nat) (a1 : Int32) (a2 : Int32) {r : Option Value × SS} (h : ((if a1 < 6 then (¬ (a1 < 0 ∨ 6 ≤ (a1).toNatClampNeg) ∧ (if (I 21 ((a1).toNatClampNeg)) = 0 then (∃ (I8 : Nat → Nat → Int32), Runs (GW L xs) d 16 (0, [.ref 83, .int (a1 + 1), .int a2, vU, vU], [], (zS I J tg)) (none, (zS I8 J tg)) ∧ r = (none, (zS I8 J tg))) else (Runs (GW L xs) (d + 1) 16 (46, [.ref 83, .int a1, .int a2, .int 0, vU], [], (zS I J tg)) r))) else (∃ (I9 : Nat → Nat → Int32), Runs (GW L xs) d 174 (0, [.ref 84, .ref 85], [], (zS (up2 I 83 4 a2) J tg)) (none, (zS I9 J tg)) ∧ r = (none, (zS I9 J tg)))))) : Runs (GW L xs) (d + 1) 16 (0, [.ref 83, .int a1, .int a2, vU, vU], [], (zS I J tg)) r := by
  refine Runs.sN 2 (c' := (3, [.ref 83, .int a1, .int a2, vU, vU], [.int 6, .int a1], (zS I J tg))) rfl ?_
  by_cases c10 : a1 < 6
  · rw [if_pos c10] at h
    refine Runs.brT (P := a1 < 6) (a := 23) (b := 6) (L := [.ref 83, .int a1, .int a2, vU, vU]) (S := []) (z := (zS I J tg)) rfl c10 ?_
    refine Runs.sN 4 (c' := (31, [.ref 83, .int a1, .int a2, vU, vU], [.int a1, .ref 21], (zS I J tg))) rfl ?_
    obtain ⟨c11, h⟩ := h
    refine Runs.to (c' := (32, [.ref 83, .int a1, .int a2, vU, vU], [.int (I 21 ((a1).toNatClampNeg))], (zS I J tg))) (Runs.ild rfl (show (21 : Nat) < 114 by decide) rfl c11) ?_
    by_cases c12 : (I 21 ((a1).toNatClampNeg)) = 0
    · rw [if_pos c12] at h
      refine Runs.brT (P := (I 21 ((a1).toNatClampNeg)) = 0) (a := 35) (b := 44) (L := [.ref 83, .int a1, .int a2, vU, vU]) (S := []) (z := (zS I J tg)) rfl c12 ?_
      refine Runs.sN 5 (c' := (40, [.ref 83, .int a1, .int a2, vU, vU], [.int a2, .int (a1 + 1), .ref 83], (zS I J tg))) rfl ?_
      obtain ⟨I8, c13, h⟩ := h
      refine Runs.cl (cm := 16) (as := [.ref 83, .int (a1 + 1), .int a2]) (rest := []) (r1 := (none, (zS I8 J tg))) rfl (Nat.le_of_ble_eq_true rfl) c13 ?_
      refine Runs.as (c' := (43, [.ref 83, .int a1, .int a2, vU, vU], [], (zS I8 J tg))) rfl ?_
      subst h
      exact Runs.rt rfl
    · rw [if_neg c12] at h
      refine Runs.brF (P := (I 21 ((a1).toNatClampNeg)) = 0) (a := 35) (b := 44) (L := [.ref 83, .int a1, .int a2, vU, vU]) (S := []) (z := (zS I J tg)) rfl c12 ?_
      refine Runs.sN 2 (c' := (46, [.ref 83, .int a1, .int a2, .int 0, vU], [], (zS I J tg))) rfl ?_
      exact h
  · rw [if_neg c10] at h
    refine Runs.brF (P := a1 < 6) (a := 23) (b := 6) (L := [.ref 83, .int a1, .int a2, vU, vU]) (S := []) (z := (zS I J tg)) rfl c10 ?_
    refine Runs.sN 7 (c' := (19, [.ref 83, .int a1, .int a2, vU, vU], [.ref 85, .ref 84], (zS (up2 I 83 4 a2) J tg))) rfl ?_
    obtain ⟨I9, c14, h⟩ := h
    refine Runs.cl (cm := 174) (as := [.ref 84, .ref 85]) (rest := []) (r1 := (none, (zS I9 J tg))) rfl (Nat.le_of_ble_eq_true rfl) c14 ?_
    refine Runs.as (c' := (22, [.ref 83, .int a1, .int a2, vU, vU], [], (zS I9 J tg))) rfl ?_
    subst h
    exact Runs.rt rfl
theorem sg_16_46 {L d : Nat} {xs : Nat → Int32} (I : Nat → Nat → Int32) (J : Nat → Nat → Int64) (tg : Option Nat) (x1 : Int32) (x2 : Int32) (x3 : Int32) {r : Option Value × SS} (h : (¬ (x1 < 0 ∨ 6 ≤ (x1).toNatClampNeg) ∧ (if (I 21 ((x1).toNatClampNeg)) ≤ x3 then (r = (none, (zS I J tg))) else (¬ (((x1 * 4) + x3) < 0 ∨ 24 ≤ ((x1 * 4) + x3).toNatClampNeg) ∧ ¬ (x1 < 0 ∨ 6 ≤ (x1).toNatClampNeg) ∧ ∃ (v1 : Int32) (I2 : Nat → Nat → Int32), Runs (GW L xs) d 17 (0, [.ref 83, .int x1, vU, vU], [], (zS (up2 I 84 ((x1).toNatClampNeg) (I 20 (((x1 * 4) + x3).toNatClampNeg))) J tg)) ((some (.int v1)), (zS I2 J tg)) ∧ (if (if v1 < x2 then v1 else x2) ≤ (I2 83 4) then (Runs (GW L xs) (d + 1) 16 (46, [.ref 83, .int x1, .int x2, .int (x3 + 1), vU], [], (zS I2 J tg)) r) else (∃ (I3 : Nat → Nat → Int32), Runs (GW L xs) d 16 (0, [.ref 83, .int (x1 + 1), .int (if v1 < x2 then v1 else x2), vU, vU], [], (zS I2 J tg)) (none, (zS I3 J tg)) ∧ Runs (GW L xs) (d + 1) 16 (46, [.ref 83, .int x1, .int x2, .int (x3 + 1), vU], [], (zS I3 J tg)) r)))))) : Runs (GW L xs) (d + 1) 16 (46, [.ref 83, .int x1, .int x2, .int x3, vU], [], (zS I J tg)) r := by
  refine Runs.sN 5 (c' := (55, [.ref 83, .int x1, .int x2, .int x3, vU], [.int x1, .ref 21, .int x3], (zS I J tg))) rfl ?_
  obtain ⟨c4, h⟩ := h
  refine Runs.to (c' := (56, [.ref 83, .int x1, .int x2, .int x3, vU], [.int (I 21 ((x1).toNatClampNeg)), .int x3], (zS I J tg))) (Runs.ild rfl (show (21 : Nat) < 114 by decide) rfl c4) ?_
  by_cases c5 : (I 21 ((x1).toNatClampNeg)) ≤ x3
  · rw [if_pos c5] at h
    refine Runs.brT (P := (I 21 ((x1).toNatClampNeg)) ≤ x3) (a := 113) (b := 59) (L := [.ref 83, .int x1, .int x2, .int x3, vU]) (S := []) (z := (zS I J tg)) rfl c5 ?_
    subst h
    exact Runs.rt rfl
  · rw [if_neg c5] at h
    refine Runs.brF (P := (I 21 ((x1).toNatClampNeg)) ≤ x3) (a := 113) (b := 59) (L := [.ref 83, .int x1, .int x2, .int x3, vU]) (S := []) (z := (zS I J tg)) rfl c5 ?_
    refine Runs.sN 11 (c' := (76, [.ref 83, .int x1, .int x2, .int x3, vU], [.int ((x1 * 4) + x3), .ref 20, .int x1, .ref 84], (zS I J tg))) rfl ?_
    obtain ⟨c6, h⟩ := h
    refine Runs.to (c' := (77, [.ref 83, .int x1, .int x2, .int x3, vU], [.int (I 20 (((x1 * 4) + x3).toNatClampNeg)), .int x1, .ref 84], (zS I J tg))) (Runs.ild rfl (show (20 : Nat) < 114 by decide) rfl c6) ?_
    obtain ⟨c7, h⟩ := h
    refine Runs.to (c' := (78, [.ref 83, .int x1, .int x2, .int x3, vU], [], (zS (up2 I 84 ((x1).toNatClampNeg) (I 20 (((x1 * 4) + x3).toNatClampNeg))) J tg))) (Runs.ist rfl (show (84 : Nat) < 114 by decide) rfl c7) ?_
    refine Runs.sN 3 (c' := (81, [.ref 83, .int x1, .int x2, .int x3, vU], [.int x1, .ref 83, .int x2], (zS (up2 I 84 ((x1).toNatClampNeg) (I 20 (((x1 * 4) + x3).toNatClampNeg))) J tg))) rfl ?_
    obtain ⟨v1, I2, c8, h⟩ := h
    refine Runs.cl (cm := 17) (as := [.ref 83, .int x1]) (rest := [.int x2]) (r1 := ((some (.int v1)), (zS I2 J tg))) rfl (Nat.le_of_ble_eq_true rfl) c8 ?_
    refine Runs.as (c' := (84, [.ref 83, .int x1, .int x2, .int x3, vU], [.int v1, .int x2], (zS I2 J tg))) rfl ?_
    refine Runs.sN 5 (c' := (95, [.ref 83, .int x1, .int x2, .int x3, .int (if v1 < x2 then v1 else x2)], [.int (I2 83 4), .int (if v1 < x2 then v1 else x2)], (zS I2 J tg))) rfl ?_
    by_cases c9 : (if v1 < x2 then v1 else x2) ≤ (I2 83 4)
    · rw [if_pos c9] at h
      refine Runs.brT (P := (if v1 < x2 then v1 else x2) ≤ (I2 83 4)) (a := 107) (b := 98) (L := [.ref 83, .int x1, .int x2, .int x3, .int (if v1 < x2 then v1 else x2)]) (S := []) (z := (zS I2 J tg)) rfl c9 ?_
      refine Runs.sN 2 (c' := (46, [.ref 83, .int x1, .int x2, .int (x3 + 1), .int (if v1 < x2 then v1 else x2)], [], (zS I2 J tg))) rfl ?_
      exact Runs.weak (L := [.ref 83, .int x1, .int x2, .int (x3 + 1), vU]) (Lle.k (Lle.k (Lle.k (Lle.k (Lle.u Lle.n))))) h
    · rw [if_neg c9] at h
      refine Runs.brF (P := (if v1 < x2 then v1 else x2) ≤ (I2 83 4)) (a := 107) (b := 98) (L := [.ref 83, .int x1, .int x2, .int x3, .int (if v1 < x2 then v1 else x2)]) (S := []) (z := (zS I2 J tg)) rfl c9 ?_
      refine Runs.sN 5 (c' := (104, [.ref 83, .int x1, .int x2, .int x3, .int (if v1 < x2 then v1 else x2)], [.int (if v1 < x2 then v1 else x2), .int (x1 + 1), .ref 83], (zS I2 J tg))) rfl ?_
      obtain ⟨I3, c10, h⟩ := h
      refine Runs.cl (cm := 16) (as := [.ref 83, .int (x1 + 1), .int (if v1 < x2 then v1 else x2)]) (rest := []) (r1 := (none, (zS I3 J tg))) rfl (Nat.le_of_ble_eq_true rfl) c10 ?_
      refine Runs.as (c' := (107, [.ref 83, .int x1, .int x2, .int x3, .int (if v1 < x2 then v1 else x2)], [], (zS I3 J tg))) rfl ?_
      refine Runs.sN 2 (c' := (46, [.ref 83, .int x1, .int x2, .int (x3 + 1), .int (if v1 < x2 then v1 else x2)], [], (zS I3 J tg))) rfl ?_
      exact Runs.weak (L := [.ref 83, .int x1, .int x2, .int (x3 + 1), vU]) (Lle.k (Lle.k (Lle.k (Lle.k (Lle.u Lle.n))))) h
-- X1_nearestBefore 
theorem sg_17 {L d : Nat} {xs : Nat → Int32} (I : Nat → Nat → Int32) (J : Nat → Nat → Int64) (tg : Option Nat) (a1 : Int32) {r : Option Value × SS} (h : (Runs (GW L xs) (d + 1) 17 (5, [.ref 83, .int a1, .int 1000000, .int 0], [], (zS I J tg)) r)) : Runs (GW L xs) (d + 1) 17 (0, [.ref 83, .int a1, vU, vU], [], (zS I J tg)) r := by
  refine Runs.sN 4 (c' := (5, [.ref 83, .int a1, .int 1000000, .int 0], [], (zS I J tg))) rfl ?_
  exact h
theorem sg_17_5 {L d : Nat} {xs : Nat → Int32} (I : Nat → Nat → Int32) (J : Nat → Nat → Int64) (tg : Option Nat) (x1 : Int32) (x2 : Int32) (x3 : Int32) {r : Option Value × SS} (h : ((if x1 ≤ x3 then (r = (some (.int x2), (zS I J tg))) else (¬ (x3 < 0 ∨ 6 ≤ (x3).toNatClampNeg) ∧ (if (I 21 ((x3).toNatClampNeg)) ≤ 0 then (Runs (GW L xs) (d + 1) 17 (5, [.ref 83, .int x1, .int x2, .int (x3 + 1)], [], (zS I J tg)) r) else (¬ (x3 < 0 ∨ 6 ≤ (x3).toNatClampNeg) ∧ ¬ (x1 < 0 ∨ 6 ≤ (x1).toNatClampNeg) ∧ ∃ (v1 : Int32) (I2 : Nat → Nat → Int32), Runs (GW L xs) d 62 (0, [.ref 70, .int (I 84 ((x3).toNatClampNeg)), .int (I 84 ((x1).toNatClampNeg)), vU], [], (zS I J tg)) ((some (.int v1)), (zS I2 J tg)) ∧ Runs (GW L xs) (d + 1) 17 (5, [.ref 83, .int x1, .int (if v1 < x2 then v1 else x2), .int (x3 + 1)], [], (zS I2 J tg)) r)))))) : Runs (GW L xs) (d + 1) 17 (5, [.ref 83, .int x1, .int x2, .int x3], [], (zS I J tg)) r := by
  refine Runs.sN 2 (c' := (7, [.ref 83, .int x1, .int x2, .int x3], [.int x1, .int x3], (zS I J tg))) rfl ?_
  by_cases c3 : x1 ≤ x3
  · rw [if_pos c3] at h
    refine Runs.brT (P := x1 ≤ x3) (a := 52) (b := 10) (L := [.ref 83, .int x1, .int x2, .int x3]) (S := []) (z := (zS I J tg)) rfl c3 ?_
    refine Runs.sN 1 (c' := (53, [.ref 83, .int x1, .int x2, .int x3], [.int x2], (zS I J tg))) rfl ?_
    subst h
    exact Runs.rt rfl
  · rw [if_neg c3] at h
    refine Runs.brF (P := x1 ≤ x3) (a := 52) (b := 10) (L := [.ref 83, .int x1, .int x2, .int x3]) (S := []) (z := (zS I J tg)) rfl c3 ?_
    refine Runs.sN 4 (c' := (18, [.ref 83, .int x1, .int x2, .int x3], [.int x3, .ref 21], (zS I J tg))) rfl ?_
    obtain ⟨c4, h⟩ := h
    refine Runs.to (c' := (19, [.ref 83, .int x1, .int x2, .int x3], [.int (I 21 ((x3).toNatClampNeg))], (zS I J tg))) (Runs.ild rfl (show (21 : Nat) < 114 by decide) rfl c4) ?_
    by_cases c5 : (I 21 ((x3).toNatClampNeg)) ≤ 0
    · rw [if_pos c5] at h
      refine Runs.brT (P := (I 21 ((x3).toNatClampNeg)) ≤ 0) (a := 46) (b := 22) (L := [.ref 83, .int x1, .int x2, .int x3]) (S := []) (z := (zS I J tg)) rfl c5 ?_
      refine Runs.sN 2 (c' := (5, [.ref 83, .int x1, .int x2, .int (x3 + 1)], [], (zS I J tg))) rfl ?_
      exact h
    · rw [if_neg c5] at h
      refine Runs.brF (P := (I 21 ((x3).toNatClampNeg)) ≤ 0) (a := 46) (b := 22) (L := [.ref 83, .int x1, .int x2, .int x3]) (S := []) (z := (zS I J tg)) rfl c5 ?_
      refine Runs.sN 6 (c' := (32, [.ref 83, .int x1, .int x2, .int x3], [.int x3, .ref 84, .ref 70, .int x2], (zS I J tg))) rfl ?_
      obtain ⟨c6, h⟩ := h
      refine Runs.to (c' := (33, [.ref 83, .int x1, .int x2, .int x3], [.int (I 84 ((x3).toNatClampNeg)), .ref 70, .int x2], (zS I J tg))) (Runs.ild rfl (show (84 : Nat) < 114 by decide) rfl c6) ?_
      refine Runs.sN 3 (c' := (38, [.ref 83, .int x1, .int x2, .int x3], [.int x1, .ref 84, .int (I 84 ((x3).toNatClampNeg)), .ref 70, .int x2], (zS I J tg))) rfl ?_
      obtain ⟨c7, h⟩ := h
      refine Runs.to (c' := (39, [.ref 83, .int x1, .int x2, .int x3], [.int (I 84 ((x1).toNatClampNeg)), .int (I 84 ((x3).toNatClampNeg)), .ref 70, .int x2], (zS I J tg))) (Runs.ild rfl (show (84 : Nat) < 114 by decide) rfl c7) ?_
      obtain ⟨v1, I2, c8, h⟩ := h
      refine Runs.cl (cm := 62) (as := [.ref 70, .int (I 84 ((x3).toNatClampNeg)), .int (I 84 ((x1).toNatClampNeg))]) (rest := [.int x2]) (r1 := ((some (.int v1)), (zS I2 J tg))) rfl (Nat.le_of_ble_eq_true rfl) c8 ?_
      refine Runs.as (c' := (42, [.ref 83, .int x1, .int x2, .int x3], [.int v1, .int x2], (zS I2 J tg))) rfl ?_
      refine Runs.sN 4 (c' := (5, [.ref 83, .int x1, .int (if v1 < x2 then v1 else x2), .int (x3 + 1)], [], (zS I2 J tg))) rfl ?_
      exact h
-- X1_barredSlot 
theorem sg_18 {L d : Nat} {xs : Nat → Int32} (I : Nat → Nat → Int32) (J : Nat → Nat → Int64) (tg : Option Nat) (a1 : Int32) {r : Option Value × SS} (h : (∃ (I2 : Nat → Nat → Int32), Runs (GW L xs) d 19 (0, [.ref 83, .int 0, .int a1, vU], [], (zS (up2 I 83 5 0) J tg)) (none, (zS I2 J tg)) ∧ (if (I2 83 5) < 6 then (r = (some (.int (I2 83 5)), (zS I2 J tg))) else (r = (some (.int (-1)), (zS I2 J tg)))))) : Runs (GW L xs) (d + 1) 18 (0, [.ref 83, .int a1], [], (zS I J tg)) r := by
  refine Runs.sN 6 (c' := (8, [.ref 83, .int a1], [.int a1, .int 0, .ref 83], (zS (up2 I 83 5 0) J tg))) rfl ?_
  obtain ⟨I2, c3, h⟩ := h
  refine Runs.cl (cm := 19) (as := [.ref 83, .int 0, .int a1]) (rest := []) (r1 := (none, (zS I2 J tg))) rfl (Nat.le_of_ble_eq_true rfl) c3 ?_
  refine Runs.as (c' := (11, [.ref 83, .int a1], [], (zS I2 J tg))) rfl ?_
  refine Runs.sN 3 (c' := (17, [.ref 83, .int a1], [.int 6, .int (I2 83 5)], (zS I2 J tg))) rfl ?_
  by_cases c4 : (I2 83 5) < 6
  · rw [if_pos c4] at h
    refine Runs.brT (P := (I2 83 5) < 6) (a := 24) (b := 20) (L := [.ref 83, .int a1]) (S := []) (z := (zS I2 J tg)) rfl c4 ?_
    refine Runs.sN 2 (c' := (28, [.ref 83, .int a1], [.int (I2 83 5)], (zS I2 J tg))) rfl ?_
    subst h
    exact Runs.rt rfl
  · rw [if_neg c4] at h
    refine Runs.brF (P := (I2 83 5) < 6) (a := 24) (b := 20) (L := [.ref 83, .int a1]) (S := []) (z := (zS I2 J tg)) rfl c4 ?_
    refine Runs.sN 2 (c' := (28, [.ref 83, .int a1], [.int (-1)], (zS I2 J tg))) rfl ?_
    subst h
    exact Runs.rt rfl
-- X1_advance 
theorem sg_19 {L d : Nat} {xs : Nat → Int32} (I : Nat → Nat → Int32) (J : Nat → Nat → Int64) (tg : Option Nat) (a1 : Int32) (a2 : Int32) {r : Option Value × SS} (h : ((if a1 < 6 then (¬ (a1 < 0 ∨ 6 ≤ (a1).toNatClampNeg) ∧ (if (I 21 ((a1).toNatClampNeg)) = 0 then (∃ (I6 : Nat → Nat → Int32), Runs (GW L xs) d 19 (0, [.ref 83, .int (a1 + 1), .int a2, vU], [], (zS (up2 I 83 5 (if (I 83 5) < a1 then a1 else (I 83 5))) J tg)) (none, (zS I6 J tg)) ∧ r = (none, (zS I6 J tg))) else (Runs (GW L xs) (d + 1) 19 (42, [.ref 83, .int a1, .int a2, .int 0], [], (zS (up2 I 83 5 (if (I 83 5) < a1 then a1 else (I 83 5))) J tg)) r))) else (r = (none, (zS (up2 I 83 5 (if (I 83 5) < a1 then a1 else (I 83 5))) J tg)))))) : Runs (GW L xs) (d + 1) 19 (0, [.ref 83, .int a1, .int a2, vU], [], (zS I J tg)) r := by
  refine Runs.sN 8 (c' := (15, [.ref 83, .int a1, .int a2, vU], [.int 6, .int a1], (zS (up2 I 83 5 (if (I 83 5) < a1 then a1 else (I 83 5))) J tg))) rfl ?_
  by_cases c7 : a1 < 6
  · rw [if_pos c7] at h
    refine Runs.brT (P := a1 < 6) (a := 19) (b := 18) (L := [.ref 83, .int a1, .int a2, vU]) (S := []) (z := (zS (up2 I 83 5 (if (I 83 5) < a1 then a1 else (I 83 5))) J tg)) rfl c7 ?_
    refine Runs.sN 4 (c' := (27, [.ref 83, .int a1, .int a2, vU], [.int a1, .ref 21], (zS (up2 I 83 5 (if (I 83 5) < a1 then a1 else (I 83 5))) J tg))) rfl ?_
    obtain ⟨c8, h⟩ := h
    refine Runs.to (c' := (28, [.ref 83, .int a1, .int a2, vU], [.int (I 21 ((a1).toNatClampNeg))], (zS (up2 I 83 5 (if (I 83 5) < a1 then a1 else (I 83 5))) J tg))) (Runs.ild rfl (show (21 : Nat) < 114 by decide) rfl c8) ?_
    by_cases c9 : (I 21 ((a1).toNatClampNeg)) = 0
    · rw [if_pos c9] at h
      refine Runs.brT (P := (I 21 ((a1).toNatClampNeg)) = 0) (a := 31) (b := 40) (L := [.ref 83, .int a1, .int a2, vU]) (S := []) (z := (zS (up2 I 83 5 (if (I 83 5) < a1 then a1 else (I 83 5))) J tg)) rfl c9 ?_
      refine Runs.sN 5 (c' := (36, [.ref 83, .int a1, .int a2, vU], [.int a2, .int (a1 + 1), .ref 83], (zS (up2 I 83 5 (if (I 83 5) < a1 then a1 else (I 83 5))) J tg))) rfl ?_
      obtain ⟨I6, c10, h⟩ := h
      refine Runs.cl (cm := 19) (as := [.ref 83, .int (a1 + 1), .int a2]) (rest := []) (r1 := (none, (zS I6 J tg))) rfl (Nat.le_of_ble_eq_true rfl) c10 ?_
      refine Runs.as (c' := (39, [.ref 83, .int a1, .int a2, vU], [], (zS I6 J tg))) rfl ?_
      subst h
      exact Runs.rt rfl
    · rw [if_neg c9] at h
      refine Runs.brF (P := (I 21 ((a1).toNatClampNeg)) = 0) (a := 31) (b := 40) (L := [.ref 83, .int a1, .int a2, vU]) (S := []) (z := (zS (up2 I 83 5 (if (I 83 5) < a1 then a1 else (I 83 5))) J tg)) rfl c9 ?_
      refine Runs.sN 2 (c' := (42, [.ref 83, .int a1, .int a2, .int 0], [], (zS (up2 I 83 5 (if (I 83 5) < a1 then a1 else (I 83 5))) J tg))) rfl ?_
      exact h
  · rw [if_neg c7] at h
    refine Runs.brF (P := a1 < 6) (a := 19) (b := 18) (L := [.ref 83, .int a1, .int a2, vU]) (S := []) (z := (zS (up2 I 83 5 (if (I 83 5) < a1 then a1 else (I 83 5))) J tg)) rfl c7 ?_
    subst h
    exact Runs.rt rfl
theorem sg_19_42 {L d : Nat} {xs : Nat → Int32} (I : Nat → Nat → Int32) (J : Nat → Nat → Int64) (tg : Option Nat) (x1 : Int32) (x2 : Int32) (x3 : Int32) {r : Option Value × SS} (h : (¬ (x1 < 0 ∨ 6 ≤ (x1).toNatClampNeg) ∧ (if (I 21 ((x1).toNatClampNeg)) ≤ x3 then (r = (none, (zS I J tg))) else ((if 6 ≤ (I 83 5) then (r = (none, (zS I J tg))) else (¬ (((x1 * 4) + x3) < 0 ∨ 24 ≤ ((x1 * 4) + x3).toNatClampNeg) ∧ ¬ (x1 < 0 ∨ 6 ≤ (x1).toNatClampNeg) ∧ ∃ (v1 : Int32) (I2 : Nat → Nat → Int32), Runs (GW L xs) d 17 (0, [.ref 83, .int x1, vU, vU], [], (zS (up2 I 84 ((x1).toNatClampNeg) (I 20 (((x1 * 4) + x3).toNatClampNeg))) J tg)) ((some (.int v1)), (zS I2 J tg)) ∧ (if v1 < x2 then (Runs (GW L xs) (d + 1) 19 (42, [.ref 83, .int x1, .int x2, .int (x3 + 1)], [], (zS I2 J tg)) r) else (∃ (I3 : Nat → Nat → Int32), Runs (GW L xs) d 19 (0, [.ref 83, .int (x1 + 1), .int x2, vU], [], (zS I2 J tg)) (none, (zS I3 J tg)) ∧ Runs (GW L xs) (d + 1) 19 (42, [.ref 83, .int x1, .int x2, .int (x3 + 1)], [], (zS I3 J tg)) r)))))))) : Runs (GW L xs) (d + 1) 19 (42, [.ref 83, .int x1, .int x2, .int x3], [], (zS I J tg)) r := by
  refine Runs.sN 5 (c' := (51, [.ref 83, .int x1, .int x2, .int x3], [.int x1, .ref 21, .int x3], (zS I J tg))) rfl ?_
  obtain ⟨c4, h⟩ := h
  refine Runs.to (c' := (52, [.ref 83, .int x1, .int x2, .int x3], [.int (I 21 ((x1).toNatClampNeg)), .int x3], (zS I J tg))) (Runs.ild rfl (show (21 : Nat) < 114 by decide) rfl c4) ?_
  by_cases c5 : (I 21 ((x1).toNatClampNeg)) ≤ x3
  · rw [if_pos c5] at h
    refine Runs.brT (P := (I 21 ((x1).toNatClampNeg)) ≤ x3) (a := 106) (b := 55) (L := [.ref 83, .int x1, .int x2, .int x3]) (S := []) (z := (zS I J tg)) rfl c5 ?_
    subst h
    exact Runs.rt rfl
  · rw [if_neg c5] at h
    refine Runs.brF (P := (I 21 ((x1).toNatClampNeg)) ≤ x3) (a := 106) (b := 55) (L := [.ref 83, .int x1, .int x2, .int x3]) (S := []) (z := (zS I J tg)) rfl c5 ?_
    refine Runs.sN 3 (c' := (61, [.ref 83, .int x1, .int x2, .int x3], [.int 6, .int (I 83 5)], (zS I J tg))) rfl ?_
    by_cases c6 : 6 ≤ (I 83 5)
    · rw [if_pos c6] at h
      refine Runs.brT (P := 6 ≤ (I 83 5)) (a := 106) (b := 64) (L := [.ref 83, .int x1, .int x2, .int x3]) (S := []) (z := (zS I J tg)) rfl c6 ?_
      subst h
      exact Runs.rt rfl
    · rw [if_neg c6] at h
      refine Runs.brF (P := 6 ≤ (I 83 5)) (a := 106) (b := 64) (L := [.ref 83, .int x1, .int x2, .int x3]) (S := []) (z := (zS I J tg)) rfl c6 ?_
      refine Runs.sN 11 (c' := (81, [.ref 83, .int x1, .int x2, .int x3], [.int ((x1 * 4) + x3), .ref 20, .int x1, .ref 84], (zS I J tg))) rfl ?_
      obtain ⟨c7, h⟩ := h
      refine Runs.to (c' := (82, [.ref 83, .int x1, .int x2, .int x3], [.int (I 20 (((x1 * 4) + x3).toNatClampNeg)), .int x1, .ref 84], (zS I J tg))) (Runs.ild rfl (show (20 : Nat) < 114 by decide) rfl c7) ?_
      obtain ⟨c8, h⟩ := h
      refine Runs.to (c' := (83, [.ref 83, .int x1, .int x2, .int x3], [], (zS (up2 I 84 ((x1).toNatClampNeg) (I 20 (((x1 * 4) + x3).toNatClampNeg))) J tg))) (Runs.ist rfl (show (84 : Nat) < 114 by decide) rfl c8) ?_
      refine Runs.sN 2 (c' := (85, [.ref 83, .int x1, .int x2, .int x3], [.int x1, .ref 83], (zS (up2 I 84 ((x1).toNatClampNeg) (I 20 (((x1 * 4) + x3).toNatClampNeg))) J tg))) rfl ?_
      obtain ⟨v1, I2, c9, h⟩ := h
      refine Runs.cl (cm := 17) (as := [.ref 83, .int x1]) (rest := []) (r1 := ((some (.int v1)), (zS I2 J tg))) rfl (Nat.le_of_ble_eq_true rfl) c9 ?_
      refine Runs.as (c' := (88, [.ref 83, .int x1, .int x2, .int x3], [.int v1], (zS I2 J tg))) rfl ?_
      refine Runs.sN 1 (c' := (89, [.ref 83, .int x1, .int x2, .int x3], [.int x2, .int v1], (zS I2 J tg))) rfl ?_
      by_cases c10 : v1 < x2
      · rw [if_pos c10] at h
        refine Runs.brT (P := v1 < x2) (a := 100) (b := 92) (L := [.ref 83, .int x1, .int x2, .int x3]) (S := []) (z := (zS I2 J tg)) rfl c10 ?_
        refine Runs.sN 2 (c' := (42, [.ref 83, .int x1, .int x2, .int (x3 + 1)], [], (zS I2 J tg))) rfl ?_
        exact h
      · rw [if_neg c10] at h
        refine Runs.brF (P := v1 < x2) (a := 100) (b := 92) (L := [.ref 83, .int x1, .int x2, .int x3]) (S := []) (z := (zS I2 J tg)) rfl c10 ?_
        refine Runs.sN 5 (c' := (97, [.ref 83, .int x1, .int x2, .int x3], [.int x2, .int (x1 + 1), .ref 83], (zS I2 J tg))) rfl ?_
        obtain ⟨I3, c11, h⟩ := h
        refine Runs.cl (cm := 19) (as := [.ref 83, .int (x1 + 1), .int x2]) (rest := []) (r1 := (none, (zS I3 J tg))) rfl (Nat.le_of_ble_eq_true rfl) c11 ?_
        refine Runs.as (c' := (100, [.ref 83, .int x1, .int x2, .int x3], [], (zS I3 J tg))) rfl ?_
        refine Runs.sN 2 (c' := (42, [.ref 83, .int x1, .int x2, .int (x3 + 1)], [], (zS I3 J tg))) rfl ?_
        exact h
-- X2_empty g47
theorem sg_21g47 {L d : Nat} {xs : Nat → Int32} (I : Nat → Nat → Int32) (J : Nat → Nat → Int64) (tg : Option Nat) {r : Option Value × SS} (h : (r = (none, (zS (up2 (up2 (up2 I 47 4 0) 47 5 0) 47 6 (-1)) J tg)))) : Runs (GW L xs) d 21 (0, [.ref 47], [], (zS I J tg)) r := by
  refine Runs.sN 9 (c' := (15, [.ref 47], [], (zS (up2 (up2 (up2 I 47 4 0) 47 5 0) 47 6 (-1)) J tg))) rfl ?_
  subst h
  exact Runs.rt rfl
-- X2_empty g51
theorem sg_21g51 {L d : Nat} {xs : Nat → Int32} (I : Nat → Nat → Int32) (J : Nat → Nat → Int64) (tg : Option Nat) {r : Option Value × SS} (h : (r = (none, (zS (up2 (up2 (up2 I 51 4 0) 51 5 0) 51 6 (-1)) J tg)))) : Runs (GW L xs) d 21 (0, [.ref 51], [], (zS I J tg)) r := by
  refine Runs.sN 9 (c' := (15, [.ref 51], [], (zS (up2 (up2 (up2 I 51 4 0) 51 5 0) 51 6 (-1)) J tg))) rfl ?_
  subst h
  exact Runs.rt rfl
-- X2_empty g55
theorem sg_21g55 {L d : Nat} {xs : Nat → Int32} (I : Nat → Nat → Int32) (J : Nat → Nat → Int64) (tg : Option Nat) {r : Option Value × SS} (h : (r = (none, (zS (up2 (up2 (up2 I 55 4 0) 55 5 0) 55 6 (-1)) J tg)))) : Runs (GW L xs) d 21 (0, [.ref 55], [], (zS I J tg)) r := by
  refine Runs.sN 9 (c' := (15, [.ref 55], [], (zS (up2 (up2 (up2 I 55 4 0) 55 5 0) 55 6 (-1)) J tg))) rfl ?_
  subst h
  exact Runs.rt rfl
-- X2_empty g59
theorem sg_21g59 {L d : Nat} {xs : Nat → Int32} (I : Nat → Nat → Int32) (J : Nat → Nat → Int64) (tg : Option Nat) {r : Option Value × SS} (h : (r = (none, (zS (up2 (up2 (up2 I 59 4 0) 59 5 0) 59 6 (-1)) J tg)))) : Runs (GW L xs) d 21 (0, [.ref 59], [], (zS I J tg)) r := by
  refine Runs.sN 9 (c' := (15, [.ref 59], [], (zS (up2 (up2 (up2 I 59 4 0) 59 5 0) 59 6 (-1)) J tg))) rfl ?_
  subst h
  exact Runs.rt rfl
-- X2_isFull g47
theorem sg_22g47 {L d : Nat} {xs : Nat → Int32} (I : Nat → Nat → Int32) (J : Nat → Nat → Int64) (tg : Option Nat) {r : Option Value × SS} (h : ((if (I 47 4) < 10 then (r = (some (.int 0), (zS I J tg))) else (r = (some (.int 1), (zS I J tg)))))) : Runs (GW L xs) d 22 (0, [.ref 47], [], (zS I J tg)) r := by
  refine Runs.sN 3 (c' := (6, [.ref 47], [.int 10, .int (I 47 4)], (zS I J tg))) rfl ?_
  by_cases c1 : (I 47 4) < 10
  · rw [if_pos c1] at h
    refine Runs.brT (P := (I 47 4) < 10) (a := 13) (b := 9) (L := [.ref 47]) (S := []) (z := (zS I J tg)) rfl c1 ?_
    refine Runs.sN 1 (c' := (14, [.ref 47], [.int 0], (zS I J tg))) rfl ?_
    subst h
    exact Runs.rt rfl
  · rw [if_neg c1] at h
    refine Runs.brF (P := (I 47 4) < 10) (a := 13) (b := 9) (L := [.ref 47]) (S := []) (z := (zS I J tg)) rfl c1 ?_
    refine Runs.sN 2 (c' := (14, [.ref 47], [.int 1], (zS I J tg))) rfl ?_
    subst h
    exact Runs.rt rfl
-- X2_isFull g51
theorem sg_22g51 {L d : Nat} {xs : Nat → Int32} (I : Nat → Nat → Int32) (J : Nat → Nat → Int64) (tg : Option Nat) {r : Option Value × SS} (h : ((if (I 51 4) < 10 then (r = (some (.int 0), (zS I J tg))) else (r = (some (.int 1), (zS I J tg)))))) : Runs (GW L xs) d 22 (0, [.ref 51], [], (zS I J tg)) r := by
  refine Runs.sN 3 (c' := (6, [.ref 51], [.int 10, .int (I 51 4)], (zS I J tg))) rfl ?_
  by_cases c1 : (I 51 4) < 10
  · rw [if_pos c1] at h
    refine Runs.brT (P := (I 51 4) < 10) (a := 13) (b := 9) (L := [.ref 51]) (S := []) (z := (zS I J tg)) rfl c1 ?_
    refine Runs.sN 1 (c' := (14, [.ref 51], [.int 0], (zS I J tg))) rfl ?_
    subst h
    exact Runs.rt rfl
  · rw [if_neg c1] at h
    refine Runs.brF (P := (I 51 4) < 10) (a := 13) (b := 9) (L := [.ref 51]) (S := []) (z := (zS I J tg)) rfl c1 ?_
    refine Runs.sN 2 (c' := (14, [.ref 51], [.int 1], (zS I J tg))) rfl ?_
    subst h
    exact Runs.rt rfl
-- X2_isFull g55
theorem sg_22g55 {L d : Nat} {xs : Nat → Int32} (I : Nat → Nat → Int32) (J : Nat → Nat → Int64) (tg : Option Nat) {r : Option Value × SS} (h : ((if (I 55 4) < 10 then (r = (some (.int 0), (zS I J tg))) else (r = (some (.int 1), (zS I J tg)))))) : Runs (GW L xs) d 22 (0, [.ref 55], [], (zS I J tg)) r := by
  refine Runs.sN 3 (c' := (6, [.ref 55], [.int 10, .int (I 55 4)], (zS I J tg))) rfl ?_
  by_cases c1 : (I 55 4) < 10
  · rw [if_pos c1] at h
    refine Runs.brT (P := (I 55 4) < 10) (a := 13) (b := 9) (L := [.ref 55]) (S := []) (z := (zS I J tg)) rfl c1 ?_
    refine Runs.sN 1 (c' := (14, [.ref 55], [.int 0], (zS I J tg))) rfl ?_
    subst h
    exact Runs.rt rfl
  · rw [if_neg c1] at h
    refine Runs.brF (P := (I 55 4) < 10) (a := 13) (b := 9) (L := [.ref 55]) (S := []) (z := (zS I J tg)) rfl c1 ?_
    refine Runs.sN 2 (c' := (14, [.ref 55], [.int 1], (zS I J tg))) rfl ?_
    subst h
    exact Runs.rt rfl
-- X2_isFull g59
theorem sg_22g59 {L d : Nat} {xs : Nat → Int32} (I : Nat → Nat → Int32) (J : Nat → Nat → Int64) (tg : Option Nat) {r : Option Value × SS} (h : ((if (I 59 4) < 10 then (r = (some (.int 0), (zS I J tg))) else (r = (some (.int 1), (zS I J tg)))))) : Runs (GW L xs) d 22 (0, [.ref 59], [], (zS I J tg)) r := by
  refine Runs.sN 3 (c' := (6, [.ref 59], [.int 10, .int (I 59 4)], (zS I J tg))) rfl ?_
  by_cases c1 : (I 59 4) < 10
  · rw [if_pos c1] at h
    refine Runs.brT (P := (I 59 4) < 10) (a := 13) (b := 9) (L := [.ref 59]) (S := []) (z := (zS I J tg)) rfl c1 ?_
    refine Runs.sN 1 (c' := (14, [.ref 59], [.int 0], (zS I J tg))) rfl ?_
    subst h
    exact Runs.rt rfl
  · rw [if_neg c1] at h
    refine Runs.brF (P := (I 59 4) < 10) (a := 13) (b := 9) (L := [.ref 59]) (S := []) (z := (zS I J tg)) rfl c1 ?_
    refine Runs.sN 2 (c' := (14, [.ref 59], [.int 1], (zS I J tg))) rfl ?_
    subst h
    exact Runs.rt rfl
