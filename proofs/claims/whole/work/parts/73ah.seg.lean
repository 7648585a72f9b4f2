-- X11_look 
theorem sg_116 {L d : Nat} {xs : Nat → Int32} (I : Nat → Nat → Int32) (J : Nat → Nat → Int64) (tg : Option Nat) (a1 : Int32) {r : Option Value × SS} (h : ((if a1 = 0 then ((if (I 1 0) < 12 then (r = (some (.int (((I 1 0) + 1) - 1)), (zS (up2 I 1 0 ((I 1 0) + 1)) J tg))) else (r = (some (.int (-1)), (zS I J tg))))) else ((if (I 1 1) < 12 then (r = (some (.int ((12 + ((I 1 1) + 1)) - 1)), (zS (up2 I 1 1 ((I 1 1) + 1)) J tg))) else (r = (some (.int (-1)), (zS I J tg)))))))) : Runs (GW L xs) d 116 (0, [.ref 0, .int a1], [], (zS I J tg)) r := by
  refine Runs.sN 1 (c' := (1, [.ref 0, .int a1], [.int a1], (zS I J tg))) rfl ?_
  by_cases c1 : a1 = 0
  · rw [if_pos c1] at h
    refine Runs.brT (P := a1 = 0) (a := 44) (b := 4) (L := [.ref 0, .int a1]) (S := []) (z := (zS I J tg)) rfl c1 ?_
    refine Runs.sN 4 (c' := (53, [.ref 0, .int a1], [.int 12, .int (I 1 0)], (zS I J tg))) rfl ?_
    by_cases c2 : (I 1 0) < 12
    · rw [if_pos c2] at h
      refine Runs.brT (P := (I 1 0) < 12) (a := 58) (b := 56) (L := [.ref 0, .int a1]) (S := []) (z := (zS I J tg)) rfl c2 ?_
      refine Runs.sN 12 (c' := (80, [.ref 0, .int a1], [.int (((I 1 0) + 1) - 1)], (zS (up2 I 1 0 ((I 1 0) + 1)) J tg))) rfl ?_
      subst h
      exact Runs.rt rfl
    · rw [if_neg c2] at h
      refine Runs.brF (P := (I 1 0) < 12) (a := 58) (b := 56) (L := [.ref 0, .int a1]) (S := []) (z := (zS I J tg)) rfl c2 ?_
      refine Runs.sN 1 (c' := (57, [.ref 0, .int a1], [.int (-1)], (zS I J tg))) rfl ?_
      subst h
      exact Runs.rt rfl
  · rw [if_neg c1] at h
    refine Runs.brF (P := a1 = 0) (a := 44) (b := 4) (L := [.ref 0, .int a1]) (S := []) (z := (zS I J tg)) rfl c1 ?_
    refine Runs.sN 4 (c' := (13, [.ref 0, .int a1], [.int 12, .int (I 1 1)], (zS I J tg))) rfl ?_
    by_cases c3 : (I 1 1) < 12
    · rw [if_pos c3] at h
      refine Runs.brT (P := (I 1 1) < 12) (a := 18) (b := 16) (L := [.ref 0, .int a1]) (S := []) (z := (zS I J tg)) rfl c3 ?_
      refine Runs.sN 14 (c' := (43, [.ref 0, .int a1], [.int ((12 + ((I 1 1) + 1)) - 1)], (zS (up2 I 1 1 ((I 1 1) + 1)) J tg))) rfl ?_
      subst h
      exact Runs.rt rfl
    · rw [if_neg c3] at h
      refine Runs.brF (P := (I 1 1) < 12) (a := 18) (b := 16) (L := [.ref 0, .int a1]) (S := []) (z := (zS I J tg)) rfl c3 ?_
      refine Runs.sN 1 (c' := (17, [.ref 0, .int a1], [.int (-1)], (zS I J tg))) rfl ?_
      subst h
      exact Runs.rt rfl
-- X11_part 
theorem sg_117 {L d : Nat} {xs : Nat → Int32} (I : Nat → Nat → Int32) (J : Nat → Nat → Int64) (tg : Option Nat) (a1 : Int32) (a2 : Int32) (a3 : Int32) (a4 : Int32) {r : Option Value × SS} (h : (∃ (v10 : Int32) (I11 : Nat → Nat → Int32), Runs (GW L xs) d 46 (0, [.ref 1, .int a1], [], (zS I J tg)) ((some (.int v10)), (zS I11 J tg)) ∧ (if v10 = 0 then (r = (some (.int (-1)), (zS I11 J tg))) else (∃ (v12 : Int32) (I13 : Nat → Nat → Int32), Runs (GW L xs) d 167 (0, [.int a2, .int a3, .int a4], [], (zS I11 J tg)) ((some (.int v12)), (zS I13 J tg)) ∧ (if v12 = 0 then (r = (some (.int (-1)), (zS I13 J tg))) else (∃ (v14 : Int32) (I15 : Nat → Nat → Int32), Runs (GW L xs) d 169 (0, [.int a2, .int a3, .int a4], [], (zS I13 J tg)) ((some (.int v14)), (zS I15 J tg)) ∧ ¬ (a1 < 0 ∨ 24 ≤ (a1).toNatClampNeg) ∧ (if 6 ≤ (I15 3 ((a1).toNatClampNeg)) then (r = (some (.int (-1)), (zS I15 J tg))) else (∃ (v16 : Int32) (I17 : Nat → Nat → Int32), Runs (GW L xs) d 173 (0, [.ref 2, .int (a1 * 6), .int (I15 3 ((a1).toNatClampNeg)), .int v14, vU], [], (zS I15 J tg)) ((some (.int v16)), (zS I17 J tg)) ∧ (if v16 = 0 then (¬ (((a1 * 6) + (I15 3 ((a1).toNatClampNeg))) < 0 ∨ 144 ≤ ((a1 * 6) + (I15 3 ((a1).toNatClampNeg))).toNatClampNeg) ∧ ¬ (a1 < 0 ∨ 24 ≤ (a1).toNatClampNeg) ∧ ∃ (I18 : Nat → Nat → Int32), Runs (GW L xs) d 61 (0, [.ref 70, .int a1, vU], [], (zS (up2 (up2 I17 2 (((a1 * 6) + (I15 3 ((a1).toNatClampNeg))).toNatClampNeg) v14) 3 ((a1).toNatClampNeg) ((I15 3 ((a1).toNatClampNeg)) + 1)) J tg)) (none, (zS I18 J tg)) ∧ r = (some (.int ((I15 3 ((a1).toNatClampNeg)) + 1)), (zS I18 J tg))) else (r = (some (.int (-1)), (zS I17 J tg)))))))))))) : Runs (GW L xs) (d + 1) 117 (0, [.ref 0, .int a1, .int a2, .int a3, .int a4, vU, vU], [], (zS I J tg)) r := by
  refine Runs.sN 3 (c' := (5, [.ref 0, .int a1, .int a2, .int a3, .int a4, vU, vU], [.int a1, .ref 1], (zS I J tg))) rfl ?_
  obtain ⟨v10, I11, c19, h⟩ := h
  refine Runs.cl (cm := 46) (as := [.ref 1, .int a1]) (rest := []) (r1 := ((some (.int v10)), (zS I11 J tg))) rfl (Nat.le_of_ble_eq_true rfl) c19 ?_
  refine Runs.as (c' := (8, [.ref 0, .int a1, .int a2, .int a3, .int a4, vU, vU], [.int v10], (zS I11 J tg))) rfl ?_
  by_cases c20 : v10 = 0
  · rw [if_pos c20] at h
    refine Runs.brT (P := v10 = 0) (a := 21) (b := 11) (L := [.ref 0, .int a1, .int a2, .int a3, .int a4, vU, vU]) (S := []) (z := (zS I11 J tg)) rfl c20 ?_
    refine Runs.sN 1 (c' := (22, [.ref 0, .int a1, .int a2, .int a3, .int a4, vU, vU], [.int (-1)], (zS I11 J tg))) rfl ?_
    subst h
    exact Runs.rt rfl
  · rw [if_neg c20] at h
    refine Runs.brF (P := v10 = 0) (a := 21) (b := 11) (L := [.ref 0, .int a1, .int a2, .int a3, .int a4, vU, vU]) (S := []) (z := (zS I11 J tg)) rfl c20 ?_
    refine Runs.sN 3 (c' := (15, [.ref 0, .int a1, .int a2, .int a3, .int a4, vU, vU], [.int a4, .int a3, .int a2], (zS I11 J tg))) rfl ?_
    obtain ⟨v12, I13, c21, h⟩ := h
    refine Runs.cl (cm := 167) (as := [.int a2, .int a3, .int a4]) (rest := []) (r1 := ((some (.int v12)), (zS I13 J tg))) rfl (Nat.le_of_ble_eq_true rfl) c21 ?_
    refine Runs.as (c' := (18, [.ref 0, .int a1, .int a2, .int a3, .int a4, vU, vU], [.int v12], (zS I13 J tg))) rfl ?_
    by_cases c22 : v12 = 0
    · rw [if_pos c22] at h
      refine Runs.brT (P := v12 = 0) (a := 21) (b := 23) (L := [.ref 0, .int a1, .int a2, .int a3, .int a4, vU, vU]) (S := []) (z := (zS I13 J tg)) rfl c22 ?_
      refine Runs.sN 1 (c' := (22, [.ref 0, .int a1, .int a2, .int a3, .int a4, vU, vU], [.int (-1)], (zS I13 J tg))) rfl ?_
      subst h
      exact Runs.rt rfl
    · rw [if_neg c22] at h
      refine Runs.brF (P := v12 = 0) (a := 21) (b := 23) (L := [.ref 0, .int a1, .int a2, .int a3, .int a4, vU, vU]) (S := []) (z := (zS I13 J tg)) rfl c22 ?_
      refine Runs.sN 3 (c' := (27, [.ref 0, .int a1, .int a2, .int a3, .int a4, vU, vU], [.int a4, .int a3, .int a2], (zS I13 J tg))) rfl ?_
      obtain ⟨v14, I15, c23, h⟩ := h
      refine Runs.cl (cm := 169) (as := [.int a2, .int a3, .int a4]) (rest := []) (r1 := ((some (.int v14)), (zS I15 J tg))) rfl (Nat.le_of_ble_eq_true rfl) c23 ?_
      refine Runs.as (c' := (30, [.ref 0, .int a1, .int a2, .int a3, .int a4, vU, vU], [.int v14], (zS I15 J tg))) rfl ?_
      refine Runs.sN 5 (c' := (40, [.ref 0, .int a1, .int a2, .int a3, .int a4, .int v14, vU], [.int a1, .ref 3], (zS I15 J tg))) rfl ?_
      obtain ⟨c24, h⟩ := h
      refine Runs.to (c' := (41, [.ref 0, .int a1, .int a2, .int a3, .int a4, .int v14, vU], [.int (I15 3 ((a1).toNatClampNeg))], (zS I15 J tg))) (Runs.ild rfl (show (3 : Nat) < 114 by decide) rfl c24) ?_
      refine Runs.sN 3 (c' := (47, [.ref 0, .int a1, .int a2, .int a3, .int a4, .int v14, .int (I15 3 ((a1).toNatClampNeg))], [.int 6, .int (I15 3 ((a1).toNatClampNeg))], (zS I15 J tg))) rfl ?_
      by_cases c25 : 6 ≤ (I15 3 ((a1).toNatClampNeg))
      · rw [if_pos c25] at h
        refine Runs.brT (P := 6 ≤ (I15 3 ((a1).toNatClampNeg))) (a := 71) (b := 50) (L := [.ref 0, .int a1, .int a2, .int a3, .int a4, .int v14, .int (I15 3 ((a1).toNatClampNeg))]) (S := []) (z := (zS I15 J tg)) rfl c25 ?_
        refine Runs.sN 1 (c' := (72, [.ref 0, .int a1, .int a2, .int a3, .int a4, .int v14, .int (I15 3 ((a1).toNatClampNeg))], [.int (-1)], (zS I15 J tg))) rfl ?_
        subst h
        exact Runs.rt rfl
      · rw [if_neg c25] at h
        refine Runs.brF (P := 6 ≤ (I15 3 ((a1).toNatClampNeg))) (a := 71) (b := 50) (L := [.ref 0, .int a1, .int a2, .int a3, .int a4, .int v14, .int (I15 3 ((a1).toNatClampNeg))]) (S := []) (z := (zS I15 J tg)) rfl c25 ?_
        refine Runs.sN 8 (c' := (65, [.ref 0, .int a1, .int a2, .int a3, .int a4, .int v14, .int (I15 3 ((a1).toNatClampNeg))], [.int v14, .int (I15 3 ((a1).toNatClampNeg)), .int (a1 * 6), .ref 2], (zS I15 J tg))) rfl ?_
        obtain ⟨v16, I17, c26, h⟩ := h
        refine Runs.cl (cm := 173) (as := [.ref 2, .int (a1 * 6), .int (I15 3 ((a1).toNatClampNeg)), .int v14]) (rest := []) (r1 := ((some (.int v16)), (zS I17 J tg))) rfl (Nat.le_of_ble_eq_true rfl) c26 ?_
        refine Runs.as (c' := (68, [.ref 0, .int a1, .int a2, .int a3, .int a4, .int v14, .int (I15 3 ((a1).toNatClampNeg))], [.int v16], (zS I17 J tg))) rfl ?_
        by_cases c27 : v16 = 0
        · rw [if_pos c27] at h
          refine Runs.brT (P := v16 = 0) (a := 73) (b := 71) (L := [.ref 0, .int a1, .int a2, .int a3, .int a4, .int v14, .int (I15 3 ((a1).toNatClampNeg))]) (S := []) (z := (zS I17 J tg)) rfl c27 ?_
          refine Runs.sN 9 (c' := (89, [.ref 0, .int a1, .int a2, .int a3, .int a4, .int v14, .int (I15 3 ((a1).toNatClampNeg))], [.int v14, .int ((a1 * 6) + (I15 3 ((a1).toNatClampNeg))), .ref 2], (zS I17 J tg))) rfl ?_
          obtain ⟨c28, h⟩ := h
          refine Runs.to (c' := (90, [.ref 0, .int a1, .int a2, .int a3, .int a4, .int v14, .int (I15 3 ((a1).toNatClampNeg))], [], (zS (up2 I17 2 (((a1 * 6) + (I15 3 ((a1).toNatClampNeg))).toNatClampNeg) v14) J tg))) (Runs.ist rfl (show (2 : Nat) < 114 by decide) rfl c28) ?_
          refine Runs.sN 7 (c' := (102, [.ref 0, .int a1, .int a2, .int a3, .int a4, .int v14, .int (I15 3 ((a1).toNatClampNeg))], [.int ((I15 3 ((a1).toNatClampNeg)) + 1), .int a1, .ref 3], (zS (up2 I17 2 (((a1 * 6) + (I15 3 ((a1).toNatClampNeg))).toNatClampNeg) v14) J tg))) rfl ?_
          obtain ⟨c29, h⟩ := h
          refine Runs.to (c' := (103, [.ref 0, .int a1, .int a2, .int a3, .int a4, .int v14, .int (I15 3 ((a1).toNatClampNeg))], [], (zS (up2 (up2 I17 2 (((a1 * 6) + (I15 3 ((a1).toNatClampNeg))).toNatClampNeg) v14) 3 ((a1).toNatClampNeg) ((I15 3 ((a1).toNatClampNeg)) + 1)) J tg))) (Runs.ist rfl (show (3 : Nat) < 114 by decide) rfl c29) ?_
          refine Runs.sN 3 (c' := (108, [.ref 0, .int a1, .int a2, .int a3, .int a4, .int v14, .int (I15 3 ((a1).toNatClampNeg))], [.int a1, .ref 70], (zS (up2 (up2 I17 2 (((a1 * 6) + (I15 3 ((a1).toNatClampNeg))).toNatClampNeg) v14) 3 ((a1).toNatClampNeg) ((I15 3 ((a1).toNatClampNeg)) + 1)) J tg))) rfl ?_
          obtain ⟨I18, c30, h⟩ := h
          refine Runs.cl (cm := 61) (as := [.ref 70, .int a1]) (rest := []) (r1 := (none, (zS I18 J tg))) rfl (Nat.le_of_ble_eq_true rfl) c30 ?_
          refine Runs.as (c' := (111, [.ref 0, .int a1, .int a2, .int a3, .int a4, .int v14, .int (I15 3 ((a1).toNatClampNeg))], [], (zS I18 J tg))) rfl ?_
          refine Runs.sN 3 (c' := (115, [.ref 0, .int a1, .int a2, .int a3, .int a4, .int v14, .int (I15 3 ((a1).toNatClampNeg))], [.int ((I15 3 ((a1).toNatClampNeg)) + 1)], (zS I18 J tg))) rfl ?_
          subst h
          exact Runs.rt rfl
        · rw [if_neg c27] at h
          refine Runs.brF (P := v16 = 0) (a := 73) (b := 71) (L := [.ref 0, .int a1, .int a2, .int a3, .int a4, .int v14, .int (I15 3 ((a1).toNatClampNeg))]) (S := []) (z := (zS I17 J tg)) rfl c27 ?_
          refine Runs.sN 1 (c' := (72, [.ref 0, .int a1, .int a2, .int a3, .int a4, .int v14, .int (I15 3 ((a1).toNatClampNeg))], [.int (-1)], (zS I17 J tg))) rfl ?_
          subst h
          exact Runs.rt rfl
-- X11_clear 
theorem sg_118 {L d : Nat} {xs : Nat → Int32} (I : Nat → Nat → Int32) (J : Nat → Nat → Int64) (tg : Option Nat) (a1 : Int32) {r : Option Value × SS} (h : (∃ (v4 : Int32) (I5 : Nat → Nat → Int32), Runs (GW L xs) d 46 (0, [.ref 1, .int a1], [], (zS I J tg)) ((some (.int v4)), (zS I5 J tg)) ∧ (if v4 = 0 then (r = (some (.int (-1)), (zS I5 J tg))) else (¬ (a1 < 0 ∨ 24 ≤ (a1).toNatClampNeg) ∧ ¬ (a1 < 0 ∨ 24 ≤ (a1).toNatClampNeg) ∧ ∃ (I6 : Nat → Nat → Int32), Runs (GW L xs) d 61 (0, [.ref 70, .int a1, vU], [], (zS (up2 I5 3 ((a1).toNatClampNeg) 0) J tg)) (none, (zS I6 J tg)) ∧ r = (some (.int (I5 3 ((a1).toNatClampNeg))), (zS I6 J tg)))))) : Runs (GW L xs) (d + 1) 118 (0, [.ref 0, .int a1, vU], [], (zS I J tg)) r := by
  refine Runs.sN 3 (c' := (5, [.ref 0, .int a1, vU], [.int a1, .ref 1], (zS I J tg))) rfl ?_
  obtain ⟨v4, I5, c7, h⟩ := h
  refine Runs.cl (cm := 46) (as := [.ref 1, .int a1]) (rest := []) (r1 := ((some (.int v4)), (zS I5 J tg))) rfl (Nat.le_of_ble_eq_true rfl) c7 ?_
  refine Runs.as (c' := (8, [.ref 0, .int a1, vU], [.int v4], (zS I5 J tg))) rfl ?_
  by_cases c8 : v4 = 0
  · rw [if_pos c8] at h
    refine Runs.brT (P := v4 = 0) (a := 11) (b := 13) (L := [.ref 0, .int a1, vU]) (S := []) (z := (zS I5 J tg)) rfl c8 ?_
    refine Runs.sN 1 (c' := (12, [.ref 0, .int a1, vU], [.int (-1)], (zS I5 J tg))) rfl ?_
    subst h
    exact Runs.rt rfl
  · rw [if_neg c8] at h
    refine Runs.brF (P := v4 = 0) (a := 11) (b := 13) (L := [.ref 0, .int a1, vU]) (S := []) (z := (zS I5 J tg)) rfl c8 ?_
    refine Runs.sN 4 (c' := (21, [.ref 0, .int a1, vU], [.int a1, .ref 3], (zS I5 J tg))) rfl ?_
    obtain ⟨c9, h⟩ := h
    refine Runs.to (c' := (22, [.ref 0, .int a1, vU], [.int (I5 3 ((a1).toNatClampNeg))], (zS I5 J tg))) (Runs.ild rfl (show (3 : Nat) < 114 by decide) rfl c9) ?_
    refine Runs.sN 6 (c' := (32, [.ref 0, .int a1, .int (I5 3 ((a1).toNatClampNeg))], [.int 0, .int a1, .ref 3], (zS I5 J tg))) rfl ?_
    obtain ⟨c10, h⟩ := h
    refine Runs.to (c' := (33, [.ref 0, .int a1, .int (I5 3 ((a1).toNatClampNeg))], [], (zS (up2 I5 3 ((a1).toNatClampNeg) 0) J tg))) (Runs.ist rfl (show (3 : Nat) < 114 by decide) rfl c10) ?_
    refine Runs.sN 3 (c' := (38, [.ref 0, .int a1, .int (I5 3 ((a1).toNatClampNeg))], [.int a1, .ref 70], (zS (up2 I5 3 ((a1).toNatClampNeg) 0) J tg))) rfl ?_
    obtain ⟨I6, c11, h⟩ := h
    refine Runs.cl (cm := 61) (as := [.ref 70, .int a1]) (rest := []) (r1 := (none, (zS I6 J tg))) rfl (Nat.le_of_ble_eq_true rfl) c11 ?_
    refine Runs.as (c' := (41, [.ref 0, .int a1, .int (I5 3 ((a1).toNatClampNeg))], [], (zS I6 J tg))) rfl ?_
    refine Runs.sN 1 (c' := (42, [.ref 0, .int a1, .int (I5 3 ((a1).toNatClampNeg))], [.int (I5 3 ((a1).toNatClampNeg))], (zS I6 J tg))) rfl ?_
    subst h
    exact Runs.rt rfl
-- X11_colour 
theorem sg_119 {L d : Nat} {xs : Nat → Int32} (I : Nat → Nat → Int32) (J : Nat → Nat → Int64) (tg : Option Nat) (a1 : Int32) (a2 : Int32) {r : Option Value × SS} (h : (∃ (v6 : Int32) (I7 : Nat → Nat → Int32), Runs (GW L xs) d 46 (0, [.ref 1, .int a1], [], (zS I J tg)) ((some (.int v6)), (zS I7 J tg)) ∧ (if v6 = 0 then (r = (some (.int 0), (zS I7 J tg))) else (∃ (v8 : Int32) (I9 : Nat → Nat → Int32), Runs (GW L xs) d 164 (0, [.int a2, .int 0, .int 3], [], (zS I7 J tg)) ((some (.int v8)), (zS I9 J tg)) ∧ (if v8 = 0 then (r = (some (.int 0), (zS I9 J tg))) else (¬ (a1 < 0 ∨ 24 ≤ (a1).toNatClampNeg) ∧ ∃ (I10 : Nat → Nat → Int32), Runs (GW L xs) d 61 (0, [.ref 70, .int a1, vU], [], (zS (up2 I9 4 ((a1).toNatClampNeg) a2) J tg)) (none, (zS I10 J tg)) ∧ r = (some (.int 1), (zS I10 J tg)))))))) : Runs (GW L xs) (d + 1) 119 (0, [.ref 0, .int a1, .int a2], [], (zS I J tg)) r := by
  refine Runs.sN 3 (c' := (5, [.ref 0, .int a1, .int a2], [.int a1, .ref 1], (zS I J tg))) rfl ?_
  obtain ⟨v6, I7, c11, h⟩ := h
  refine Runs.cl (cm := 46) (as := [.ref 1, .int a1]) (rest := []) (r1 := ((some (.int v6)), (zS I7 J tg))) rfl (Nat.le_of_ble_eq_true rfl) c11 ?_
  refine Runs.as (c' := (8, [.ref 0, .int a1, .int a2], [.int v6], (zS I7 J tg))) rfl ?_
  by_cases c12 : v6 = 0
  · rw [if_pos c12] at h
    refine Runs.brT (P := v6 = 0) (a := 20) (b := 11) (L := [.ref 0, .int a1, .int a2]) (S := []) (z := (zS I7 J tg)) rfl c12 ?_
    refine Runs.sN 1 (c' := (21, [.ref 0, .int a1, .int a2], [.int 0], (zS I7 J tg))) rfl ?_
    subst h
    exact Runs.rt rfl
  · rw [if_neg c12] at h
    refine Runs.brF (P := v6 = 0) (a := 20) (b := 11) (L := [.ref 0, .int a1, .int a2]) (S := []) (z := (zS I7 J tg)) rfl c12 ?_
    refine Runs.sN 3 (c' := (14, [.ref 0, .int a1, .int a2], [.int 3, .int 0, .int a2], (zS I7 J tg))) rfl ?_
    obtain ⟨v8, I9, c13, h⟩ := h
    refine Runs.cl (cm := 164) (as := [.int a2, .int 0, .int 3]) (rest := []) (r1 := ((some (.int v8)), (zS I9 J tg))) rfl (Nat.le_of_ble_eq_true rfl) c13 ?_
    refine Runs.as (c' := (17, [.ref 0, .int a1, .int a2], [.int v8], (zS I9 J tg))) rfl ?_
    by_cases c14 : v8 = 0
    · rw [if_pos c14] at h
      refine Runs.brT (P := v8 = 0) (a := 20) (b := 22) (L := [.ref 0, .int a1, .int a2]) (S := []) (z := (zS I9 J tg)) rfl c14 ?_
      refine Runs.sN 1 (c' := (21, [.ref 0, .int a1, .int a2], [.int 0], (zS I9 J tg))) rfl ?_
      subst h
      exact Runs.rt rfl
    · rw [if_neg c14] at h
      refine Runs.brF (P := v8 = 0) (a := 20) (b := 22) (L := [.ref 0, .int a1, .int a2]) (S := []) (z := (zS I9 J tg)) rfl c14 ?_
      refine Runs.sN 5 (c' := (31, [.ref 0, .int a1, .int a2], [.int a2, .int a1, .ref 4], (zS I9 J tg))) rfl ?_
      obtain ⟨c15, h⟩ := h
      refine Runs.to (c' := (32, [.ref 0, .int a1, .int a2], [], (zS (up2 I9 4 ((a1).toNatClampNeg) a2) J tg))) (Runs.ist rfl (show (4 : Nat) < 114 by decide) rfl c15) ?_
      refine Runs.sN 3 (c' := (37, [.ref 0, .int a1, .int a2], [.int a1, .ref 70], (zS (up2 I9 4 ((a1).toNatClampNeg) a2) J tg))) rfl ?_
      obtain ⟨I10, c16, h⟩ := h
      refine Runs.cl (cm := 61) (as := [.ref 70, .int a1]) (rest := []) (r1 := (none, (zS I10 J tg))) rfl (Nat.le_of_ble_eq_true rfl) c16 ?_
      refine Runs.as (c' := (40, [.ref 0, .int a1, .int a2], [], (zS I10 J tg))) rfl ?_
      refine Runs.sN 1 (c' := (41, [.ref 0, .int a1, .int a2], [.int 1], (zS I10 J tg))) rfl ?_
      subst h
      exact Runs.rt rfl
-- X11_means 
theorem sg_120 {L d : Nat} {xs : Nat → Int32} (I : Nat → Nat → Int32) (J : Nat → Nat → Int64) (tg : Option Nat) (a1 : Int32) (a2 : Int32) (a3 : Int32) {r : Option Value × SS} (h : (∃ (v5 : Int32) (I6 : Nat → Nat → Int32), Runs (GW L xs) d 44 (0, [.ref 1, .int a1], [], (zS I J tg)) ((some (.int v5)), (zS I6 J tg)) ∧ (if v5 = 0 then (r = (some (.int 0), (zS I6 J tg))) else ((if a2 = (-1) then ((if a2 = (-1) then (¬ (a1 < 0 ∨ 12 ≤ (a1).toNatClampNeg) ∧ (if a3 = 0 then (¬ (a1 < 0 ∨ 12 ≤ (a1).toNatClampNeg) ∧ ((0 : Int32) = 0 ∨ (0 : Int32) = 1) ∧ r = (some (.int 1), (zS (up2 (up2 I6 5 ((a1).toNatClampNeg) (-1)) 6 ((a1).toNatClampNeg) 0) J tg))) else ((if a2 = (-1) then (¬ (a1 < 0 ∨ 12 ≤ (a1).toNatClampNeg) ∧ ((0 : Int32) = 0 ∨ (0 : Int32) = 1) ∧ r = (some (.int 1), (zS (up2 (up2 I6 5 ((a1).toNatClampNeg) (-1)) 6 ((a1).toNatClampNeg) 0) J tg))) else (¬ (a1 < 0 ∨ 12 ≤ (a1).toNatClampNeg) ∧ ((1 : Int32) = 0 ∨ (1 : Int32) = 1) ∧ r = (some (.int 1), (zS (up2 (up2 I6 5 ((a1).toNatClampNeg) (-1)) 6 ((a1).toNatClampNeg) 1) J tg))))))) else (¬ (a1 < 0 ∨ 12 ≤ (a1).toNatClampNeg) ∧ (if a3 = 0 then (¬ (a1 < 0 ∨ 12 ≤ (a1).toNatClampNeg) ∧ ((0 : Int32) = 0 ∨ (0 : Int32) = 1) ∧ r = (some (.int 1), (zS (up2 (up2 I6 5 ((a1).toNatClampNeg) (a2 - 12)) 6 ((a1).toNatClampNeg) 0) J tg))) else ((if a2 = (-1) then (¬ (a1 < 0 ∨ 12 ≤ (a1).toNatClampNeg) ∧ ((0 : Int32) = 0 ∨ (0 : Int32) = 1) ∧ r = (some (.int 1), (zS (up2 (up2 I6 5 ((a1).toNatClampNeg) (a2 - 12)) 6 ((a1).toNatClampNeg) 0) J tg))) else (¬ (a1 < 0 ∨ 12 ≤ (a1).toNatClampNeg) ∧ ((1 : Int32) = 0 ∨ (1 : Int32) = 1) ∧ r = (some (.int 1), (zS (up2 (up2 I6 5 ((a1).toNatClampNeg) (a2 - 12)) 6 ((a1).toNatClampNeg) 1) J tg))))))))) else (∃ (v7 : Int32) (I8 : Nat → Nat → Int32), Runs (GW L xs) d 45 (0, [.ref 1, .int a2], [], (zS I6 J tg)) ((some (.int v7)), (zS I8 J tg)) ∧ (if v7 = 0 then (r = (some (.int 0), (zS I8 J tg))) else ((if a2 = (-1) then (¬ (a1 < 0 ∨ 12 ≤ (a1).toNatClampNeg) ∧ (if a3 = 0 then (¬ (a1 < 0 ∨ 12 ≤ (a1).toNatClampNeg) ∧ ((0 : Int32) = 0 ∨ (0 : Int32) = 1) ∧ r = (some (.int 1), (zS (up2 (up2 I8 5 ((a1).toNatClampNeg) (-1)) 6 ((a1).toNatClampNeg) 0) J tg))) else ((if a2 = (-1) then (¬ (a1 < 0 ∨ 12 ≤ (a1).toNatClampNeg) ∧ ((0 : Int32) = 0 ∨ (0 : Int32) = 1) ∧ r = (some (.int 1), (zS (up2 (up2 I8 5 ((a1).toNatClampNeg) (-1)) 6 ((a1).toNatClampNeg) 0) J tg))) else (¬ (a1 < 0 ∨ 12 ≤ (a1).toNatClampNeg) ∧ ((1 : Int32) = 0 ∨ (1 : Int32) = 1) ∧ r = (some (.int 1), (zS (up2 (up2 I8 5 ((a1).toNatClampNeg) (-1)) 6 ((a1).toNatClampNeg) 1) J tg))))))) else (¬ (a1 < 0 ∨ 12 ≤ (a1).toNatClampNeg) ∧ (if a3 = 0 then (¬ (a1 < 0 ∨ 12 ≤ (a1).toNatClampNeg) ∧ ((0 : Int32) = 0 ∨ (0 : Int32) = 1) ∧ r = (some (.int 1), (zS (up2 (up2 I8 5 ((a1).toNatClampNeg) (a2 - 12)) 6 ((a1).toNatClampNeg) 0) J tg))) else ((if a2 = (-1) then (¬ (a1 < 0 ∨ 12 ≤ (a1).toNatClampNeg) ∧ ((0 : Int32) = 0 ∨ (0 : Int32) = 1) ∧ r = (some (.int 1), (zS (up2 (up2 I8 5 ((a1).toNatClampNeg) (a2 - 12)) 6 ((a1).toNatClampNeg) 0) J tg))) else (¬ (a1 < 0 ∨ 12 ≤ (a1).toNatClampNeg) ∧ ((1 : Int32) = 0 ∨ (1 : Int32) = 1) ∧ r = (some (.int 1), (zS (up2 (up2 I8 5 ((a1).toNatClampNeg) (a2 - 12)) 6 ((a1).toNatClampNeg) 1) J tg)))))))))))))))) : Runs (GW L xs) (d + 1) 120 (0, [.ref 0, .int a1, .int a2, .int a3], [], (zS I J tg)) r := by
  refine Runs.sN 3 (c' := (5, [.ref 0, .int a1, .int a2, .int a3], [.int a1, .ref 1], (zS I J tg))) rfl ?_
  obtain ⟨v5, I6, c9, h⟩ := h
  refine Runs.cl (cm := 44) (as := [.ref 1, .int a1]) (rest := []) (r1 := ((some (.int v5)), (zS I6 J tg))) rfl (Nat.le_of_ble_eq_true rfl) c9 ?_
  refine Runs.as (c' := (8, [.ref 0, .int a1, .int a2, .int a3], [.int v5], (zS I6 J tg))) rfl ?_
  by_cases c10 : v5 = 0
  · rw [if_pos c10] at h
    refine Runs.brT (P := v5 = 0) (a := 27) (b := 11) (L := [.ref 0, .int a1, .int a2, .int a3]) (S := []) (z := (zS I6 J tg)) rfl c10 ?_
    refine Runs.sN 1 (c' := (28, [.ref 0, .int a1, .int a2, .int a3], [.int 0], (zS I6 J tg))) rfl ?_
    subst h
    exact Runs.rt rfl
  · rw [if_neg c10] at h
    refine Runs.brF (P := v5 = 0) (a := 27) (b := 11) (L := [.ref 0, .int a1, .int a2, .int a3]) (S := []) (z := (zS I6 J tg)) rfl c10 ?_
    refine Runs.sN 2 (c' := (13, [.ref 0, .int a1, .int a2, .int a3], [.int (-1), .int a2], (zS I6 J tg))) rfl ?_
    by_cases c11 : a2 = (-1)
    · rw [if_pos c11] at h
      refine Runs.brT (P := a2 = (-1)) (a := 29) (b := 16) (L := [.ref 0, .int a1, .int a2, .int a3]) (S := []) (z := (zS I6 J tg)) rfl c11 ?_
      refine Runs.sN 6 (c' := (39, [.ref 0, .int a1, .int a2, .int a3], [.int (-1), .int a2, .int a1, .ref 5], (zS I6 J tg))) rfl ?_
      by_cases c12 : a2 = (-1)
      · rw [if_pos c12] at h
        refine Runs.brT (P := a2 = (-1)) (a := 42) (b := 46) (L := [.ref 0, .int a1, .int a2, .int a3]) (S := [.int a1, .ref 5]) (z := (zS I6 J tg)) rfl c12 ?_
        refine Runs.sN 2 (c' := (50, [.ref 0, .int a1, .int a2, .int a3], [.int (-1), .int a1, .ref 5], (zS I6 J tg))) rfl ?_
        obtain ⟨c13, h⟩ := h
        refine Runs.to (c' := (51, [.ref 0, .int a1, .int a2, .int a3], [], (zS (up2 I6 5 ((a1).toNatClampNeg) (-1)) J tg))) (Runs.ist rfl (show (5 : Nat) < 114 by decide) rfl c13) ?_
        refine Runs.sN 5 (c' := (60, [.ref 0, .int a1, .int a2, .int a3], [.int a3, .int a1, .ref 6], (zS (up2 I6 5 ((a1).toNatClampNeg) (-1)) J tg))) rfl ?_
        by_cases c14 : a3 = 0
        · rw [if_pos c14] at h
          refine Runs.brT (P := a3 = 0) (a := 72) (b := 63) (L := [.ref 0, .int a1, .int a2, .int a3]) (S := [.int a1, .ref 6]) (z := (zS (up2 I6 5 ((a1).toNatClampNeg) (-1)) J tg)) rfl c14 ?_
          refine Runs.sN 1 (c' := (73, [.ref 0, .int a1, .int a2, .int a3], [.int 0, .int a1, .ref 6], (zS (up2 I6 5 ((a1).toNatClampNeg) (-1)) J tg))) rfl ?_
          obtain ⟨c15, h⟩ := h
          obtain ⟨c16, h⟩ := h
          refine Runs.to (c' := (74, [.ref 0, .int a1, .int a2, .int a3], [], (zS (up2 (up2 I6 5 ((a1).toNatClampNeg) (-1)) 6 ((a1).toNatClampNeg) 0) J tg))) (Runs.zst rfl (show (6 : Nat) < 114 by decide) rfl c15 c16) ?_
          refine Runs.sN 1 (c' := (75, [.ref 0, .int a1, .int a2, .int a3], [.int 1], (zS (up2 (up2 I6 5 ((a1).toNatClampNeg) (-1)) 6 ((a1).toNatClampNeg) 0) J tg))) rfl ?_
          subst h
          exact Runs.rt rfl
        · rw [if_neg c14] at h
          refine Runs.brF (P := a3 = 0) (a := 72) (b := 63) (L := [.ref 0, .int a1, .int a2, .int a3]) (S := [.int a1, .ref 6]) (z := (zS (up2 I6 5 ((a1).toNatClampNeg) (-1)) J tg)) rfl c14 ?_
          refine Runs.sN 2 (c' := (65, [.ref 0, .int a1, .int a2, .int a3], [.int (-1), .int a2, .int a1, .ref 6], (zS (up2 I6 5 ((a1).toNatClampNeg) (-1)) J tg))) rfl ?_
          by_cases c17 : a2 = (-1)
          · rw [if_pos c17] at h
            refine Runs.brT (P := a2 = (-1)) (a := 72) (b := 68) (L := [.ref 0, .int a1, .int a2, .int a3]) (S := [.int a1, .ref 6]) (z := (zS (up2 I6 5 ((a1).toNatClampNeg) (-1)) J tg)) rfl c17 ?_
            refine Runs.sN 1 (c' := (73, [.ref 0, .int a1, .int a2, .int a3], [.int 0, .int a1, .ref 6], (zS (up2 I6 5 ((a1).toNatClampNeg) (-1)) J tg))) rfl ?_
            obtain ⟨c18, h⟩ := h
            obtain ⟨c19, h⟩ := h
            refine Runs.to (c' := (74, [.ref 0, .int a1, .int a2, .int a3], [], (zS (up2 (up2 I6 5 ((a1).toNatClampNeg) (-1)) 6 ((a1).toNatClampNeg) 0) J tg))) (Runs.zst rfl (show (6 : Nat) < 114 by decide) rfl c18 c19) ?_
            refine Runs.sN 1 (c' := (75, [.ref 0, .int a1, .int a2, .int a3], [.int 1], (zS (up2 (up2 I6 5 ((a1).toNatClampNeg) (-1)) 6 ((a1).toNatClampNeg) 0) J tg))) rfl ?_
            subst h
            exact Runs.rt rfl
          · rw [if_neg c17] at h
            refine Runs.brF (P := a2 = (-1)) (a := 72) (b := 68) (L := [.ref 0, .int a1, .int a2, .int a3]) (S := [.int a1, .ref 6]) (z := (zS (up2 I6 5 ((a1).toNatClampNeg) (-1)) J tg)) rfl c17 ?_
            refine Runs.sN 2 (c' := (73, [.ref 0, .int a1, .int a2, .int a3], [.int 1, .int a1, .ref 6], (zS (up2 I6 5 ((a1).toNatClampNeg) (-1)) J tg))) rfl ?_
            obtain ⟨c20, h⟩ := h
            obtain ⟨c21, h⟩ := h
            refine Runs.to (c' := (74, [.ref 0, .int a1, .int a2, .int a3], [], (zS (up2 (up2 I6 5 ((a1).toNatClampNeg) (-1)) 6 ((a1).toNatClampNeg) 1) J tg))) (Runs.zst rfl (show (6 : Nat) < 114 by decide) rfl c20 c21) ?_
            refine Runs.sN 1 (c' := (75, [.ref 0, .int a1, .int a2, .int a3], [.int 1], (zS (up2 (up2 I6 5 ((a1).toNatClampNeg) (-1)) 6 ((a1).toNatClampNeg) 1) J tg))) rfl ?_
            subst h
            exact Runs.rt rfl
      · rw [if_neg c12] at h
        refine Runs.brF (P := a2 = (-1)) (a := 42) (b := 46) (L := [.ref 0, .int a1, .int a2, .int a3]) (S := [.int a1, .ref 5]) (z := (zS I6 J tg)) rfl c12 ?_
        refine Runs.sN 3 (c' := (50, [.ref 0, .int a1, .int a2, .int a3], [.int (a2 - 12), .int a1, .ref 5], (zS I6 J tg))) rfl ?_
        obtain ⟨c22, h⟩ := h
        refine Runs.to (c' := (51, [.ref 0, .int a1, .int a2, .int a3], [], (zS (up2 I6 5 ((a1).toNatClampNeg) (a2 - 12)) J tg))) (Runs.ist rfl (show (5 : Nat) < 114 by decide) rfl c22) ?_
        refine Runs.sN 5 (c' := (60, [.ref 0, .int a1, .int a2, .int a3], [.int a3, .int a1, .ref 6], (zS (up2 I6 5 ((a1).toNatClampNeg) (a2 - 12)) J tg))) rfl ?_
        by_cases c23 : a3 = 0
        · rw [if_pos c23] at h
          refine Runs.brT (P := a3 = 0) (a := 72) (b := 63) (L := [.ref 0, .int a1, .int a2, .int a3]) (S := [.int a1, .ref 6]) (z := (zS (up2 I6 5 ((a1).toNatClampNeg) (a2 - 12)) J tg)) rfl c23 ?_
          refine Runs.sN 1 (c' := (73, [.ref 0, .int a1, .int a2, .int a3], [.int 0, .int a1, .ref 6], (zS (up2 I6 5 ((a1).toNatClampNeg) (a2 - 12)) J tg))) rfl ?_
          obtain ⟨c24, h⟩ := h
          obtain ⟨c25, h⟩ := h
          refine Runs.to (c' := (74, [.ref 0, .int a1, .int a2, .int a3], [], (zS (up2 (up2 I6 5 ((a1).toNatClampNeg) (a2 - 12)) 6 ((a1).toNatClampNeg) 0) J tg))) (Runs.zst rfl (show (6 : Nat) < 114 by decide) rfl c24 c25) ?_
          refine Runs.sN 1 (c' := (75, [.ref 0, .int a1, .int a2, .int a3], [.int 1], (zS (up2 (up2 I6 5 ((a1).toNatClampNeg) (a2 - 12)) 6 ((a1).toNatClampNeg) 0) J tg))) rfl ?_
          subst h
          exact Runs.rt rfl
        · rw [if_neg c23] at h
          refine Runs.brF (P := a3 = 0) (a := 72) (b := 63) (L := [.ref 0, .int a1, .int a2, .int a3]) (S := [.int a1, .ref 6]) (z := (zS (up2 I6 5 ((a1).toNatClampNeg) (a2 - 12)) J tg)) rfl c23 ?_
          refine Runs.sN 2 (c' := (65, [.ref 0, .int a1, .int a2, .int a3], [.int (-1), .int a2, .int a1, .ref 6], (zS (up2 I6 5 ((a1).toNatClampNeg) (a2 - 12)) J tg))) rfl ?_
          by_cases c26 : a2 = (-1)
          · rw [if_pos c26] at h
            refine Runs.brT (P := a2 = (-1)) (a := 72) (b := 68) (L := [.ref 0, .int a1, .int a2, .int a3]) (S := [.int a1, .ref 6]) (z := (zS (up2 I6 5 ((a1).toNatClampNeg) (a2 - 12)) J tg)) rfl c26 ?_
            refine Runs.sN 1 (c' := (73, [.ref 0, .int a1, .int a2, .int a3], [.int 0, .int a1, .ref 6], (zS (up2 I6 5 ((a1).toNatClampNeg) (a2 - 12)) J tg))) rfl ?_
            obtain ⟨c27, h⟩ := h
            obtain ⟨c28, h⟩ := h
            refine Runs.to (c' := (74, [.ref 0, .int a1, .int a2, .int a3], [], (zS (up2 (up2 I6 5 ((a1).toNatClampNeg) (a2 - 12)) 6 ((a1).toNatClampNeg) 0) J tg))) (Runs.zst rfl (show (6 : Nat) < 114 by decide) rfl c27 c28) ?_
            refine Runs.sN 1 (c' := (75, [.ref 0, .int a1, .int a2, .int a3], [.int 1], (zS (up2 (up2 I6 5 ((a1).toNatClampNeg) (a2 - 12)) 6 ((a1).toNatClampNeg) 0) J tg))) rfl ?_
            subst h
            exact Runs.rt rfl
          · rw [if_neg c26] at h
            refine Runs.brF (P := a2 = (-1)) (a := 72) (b := 68) (L := [.ref 0, .int a1, .int a2, .int a3]) (S := [.int a1, .ref 6]) (z := (zS (up2 I6 5 ((a1).toNatClampNeg) (a2 - 12)) J tg)) rfl c26 ?_
            refine Runs.sN 2 (c' := (73, [.ref 0, .int a1, .int a2, .int a3], [.int 1, .int a1, .ref 6], (zS (up2 I6 5 ((a1).toNatClampNeg) (a2 - 12)) J tg))) rfl ?_
            obtain ⟨c29, h⟩ := h
            obtain ⟨c30, h⟩ := h
            refine Runs.to (c' := (74, [.ref 0, .int a1, .int a2, .int a3], [], (zS (up2 (up2 I6 5 ((a1).toNatClampNeg) (a2 - 12)) 6 ((a1).toNatClampNeg) 1) J tg))) (Runs.zst rfl (show (6 : Nat) < 114 by decide) rfl c29 c30) ?_
            refine Runs.sN 1 (c' := (75, [.ref 0, .int a1, .int a2, .int a3], [.int 1], (zS (up2 (up2 I6 5 ((a1).toNatClampNeg) (a2 - 12)) 6 ((a1).toNatClampNeg) 1) J tg))) rfl ?_
            subst h
            exact Runs.rt rfl
    · rw [if_neg c11] at h
      refine Runs.brF (P := a2 = (-1)) (a := 29) (b := 16) (L := [.ref 0, .int a1, .int a2, .int a3]) (S := []) (z := (zS I6 J tg)) rfl c11 ?_
      refine Runs.sN 3 (c' := (21, [.ref 0, .int a1, .int a2, .int a3], [.int a2, .ref 1], (zS I6 J tg))) rfl ?_
      obtain ⟨v7, I8, c31, h⟩ := h
      refine Runs.cl (cm := 45) (as := [.ref 1, .int a2]) (rest := []) (r1 := ((some (.int v7)), (zS I8 J tg))) rfl (Nat.le_of_ble_eq_true rfl) c31 ?_
      refine Runs.as (c' := (24, [.ref 0, .int a1, .int a2, .int a3], [.int v7], (zS I8 J tg))) rfl ?_
      by_cases c32 : v7 = 0
      · rw [if_pos c32] at h
        refine Runs.brT (P := v7 = 0) (a := 27) (b := 29) (L := [.ref 0, .int a1, .int a2, .int a3]) (S := []) (z := (zS I8 J tg)) rfl c32 ?_
        refine Runs.sN 1 (c' := (28, [.ref 0, .int a1, .int a2, .int a3], [.int 0], (zS I8 J tg))) rfl ?_
        subst h
        exact Runs.rt rfl
      · rw [if_neg c32] at h
        refine Runs.brF (P := v7 = 0) (a := 27) (b := 29) (L := [.ref 0, .int a1, .int a2, .int a3]) (S := []) (z := (zS I8 J tg)) rfl c32 ?_
        refine Runs.sN 6 (c' := (39, [.ref 0, .int a1, .int a2, .int a3], [.int (-1), .int a2, .int a1, .ref 5], (zS I8 J tg))) rfl ?_
        by_cases c33 : a2 = (-1)
        · rw [if_pos c33] at h
          refine Runs.brT (P := a2 = (-1)) (a := 42) (b := 46) (L := [.ref 0, .int a1, .int a2, .int a3]) (S := [.int a1, .ref 5]) (z := (zS I8 J tg)) rfl c33 ?_
          refine Runs.sN 2 (c' := (50, [.ref 0, .int a1, .int a2, .int a3], [.int (-1), .int a1, .ref 5], (zS I8 J tg))) rfl ?_
          obtain ⟨c34, h⟩ := h
          refine Runs.to (c' := (51, [.ref 0, .int a1, .int a2, .int a3], [], (zS (up2 I8 5 ((a1).toNatClampNeg) (-1)) J tg))) (Runs.ist rfl (show (5 : Nat) < 114 by decide) rfl c34) ?_
          refine Runs.sN 5 (c' := (60, [.ref 0, .int a1, .int a2, .int a3], [.int a3, .int a1, .ref 6], (zS (up2 I8 5 ((a1).toNatClampNeg) (-1)) J tg))) rfl ?_
          by_cases c35 : a3 = 0
          · rw [if_pos c35] at h
            refine Runs.brT (P := a3 = 0) (a := 72) (b := 63) (L := [.ref 0, .int a1, .int a2, .int a3]) (S := [.int a1, .ref 6]) (z := (zS (up2 I8 5 ((a1).toNatClampNeg) (-1)) J tg)) rfl c35 ?_
            refine Runs.sN 1 (c' := (73, [.ref 0, .int a1, .int a2, .int a3], [.int 0, .int a1, .ref 6], (zS (up2 I8 5 ((a1).toNatClampNeg) (-1)) J tg))) rfl ?_
            obtain ⟨c36, h⟩ := h
            obtain ⟨c37, h⟩ := h
            refine Runs.to (c' := (74, [.ref 0, .int a1, .int a2, .int a3], [], (zS (up2 (up2 I8 5 ((a1).toNatClampNeg) (-1)) 6 ((a1).toNatClampNeg) 0) J tg))) (Runs.zst rfl (show (6 : Nat) < 114 by decide) rfl c36 c37) ?_
            refine Runs.sN 1 (c' := (75, [.ref 0, .int a1, .int a2, .int a3], [.int 1], (zS (up2 (up2 I8 5 ((a1).toNatClampNeg) (-1)) 6 ((a1).toNatClampNeg) 0) J tg))) rfl ?_
            subst h
            exact Runs.rt rfl
          · rw [if_neg c35] at h
            refine Runs.brF (P := a3 = 0) (a := 72) (b := 63) (L := [.ref 0, .int a1, .int a2, .int a3]) (S := [.int a1, .ref 6]) (z := (zS (up2 I8 5 ((a1).toNatClampNeg) (-1)) J tg)) rfl c35 ?_
            refine Runs.sN 2 (c' := (65, [.ref 0, .int a1, .int a2, .int a3], [.int (-1), .int a2, .int a1, .ref 6], (zS (up2 I8 5 ((a1).toNatClampNeg) (-1)) J tg))) rfl ?_
            by_cases c38 : a2 = (-1)
            · rw [if_pos c38] at h
              refine Runs.brT (P := a2 = (-1)) (a := 72) (b := 68) (L := [.ref 0, .int a1, .int a2, .int a3]) (S := [.int a1, .ref 6]) (z := (zS (up2 I8 5 ((a1).toNatClampNeg) (-1)) J tg)) rfl c38 ?_
              refine Runs.sN 1 (c' := (73, [.ref 0, .int a1, .int a2, .int a3], [.int 0, .int a1, .ref 6], (zS (up2 I8 5 ((a1).toNatClampNeg) (-1)) J tg))) rfl ?_
              obtain ⟨c39, h⟩ := h
              obtain ⟨c40, h⟩ := h
              refine Runs.to (c' := (74, [.ref 0, .int a1, .int a2, .int a3], [], (zS (up2 (up2 I8 5 ((a1).toNatClampNeg) (-1)) 6 ((a1).toNatClampNeg) 0) J tg))) (Runs.zst rfl (show (6 : Nat) < 114 by decide) rfl c39 c40) ?_
              refine Runs.sN 1 (c' := (75, [.ref 0, .int a1, .int a2, .int a3], [.int 1], (zS (up2 (up2 I8 5 ((a1).toNatClampNeg) (-1)) 6 ((a1).toNatClampNeg) 0) J tg))) rfl ?_
              subst h
              exact Runs.rt rfl
            · rw [if_neg c38] at h
              refine Runs.brF (P := a2 = (-1)) (a := 72) (b := 68) (L := [.ref 0, .int a1, .int a2, .int a3]) (S := [.int a1, .ref 6]) (z := (zS (up2 I8 5 ((a1).toNatClampNeg) (-1)) J tg)) rfl c38 ?_
              refine Runs.sN 2 (c' := (73, [.ref 0, .int a1, .int a2, .int a3], [.int 1, .int a1, .ref 6], (zS (up2 I8 5 ((a1).toNatClampNeg) (-1)) J tg))) rfl ?_
              obtain ⟨c41, h⟩ := h
              obtain ⟨c42, h⟩ := h
              refine Runs.to (c' := (74, [.ref 0, .int a1, .int a2, .int a3], [], (zS (up2 (up2 I8 5 ((a1).toNatClampNeg) (-1)) 6 ((a1).toNatClampNeg) 1) J tg))) (Runs.zst rfl (show (6 : Nat) < 114 by decide) rfl c41 c42) ?_
              refine Runs.sN 1 (c' := (75, [.ref 0, .int a1, .int a2, .int a3], [.int 1], (zS (up2 (up2 I8 5 ((a1).toNatClampNeg) (-1)) 6 ((a1).toNatClampNeg) 1) J tg))) rfl ?_
              subst h
              exact Runs.rt rfl
        · rw [if_neg c33] at h
          refine Runs.brF (P := a2 = (-1)) (a := 42) (b := 46) (L := [.ref 0, .int a1, .int a2, .int a3]) (S := [.int a1, .ref 5]) (z := (zS I8 J tg)) rfl c33 ?_
          refine Runs.sN 3 (c' := (50, [.ref 0, .int a1, .int a2, .int a3], [.int (a2 - 12), .int a1, .ref 5], (zS I8 J tg))) rfl ?_
          obtain ⟨c43, h⟩ := h
          refine Runs.to (c' := (51, [.ref 0, .int a1, .int a2, .int a3], [], (zS (up2 I8 5 ((a1).toNatClampNeg) (a2 - 12)) J tg))) (Runs.ist rfl (show (5 : Nat) < 114 by decide) rfl c43) ?_
          refine Runs.sN 5 (c' := (60, [.ref 0, .int a1, .int a2, .int a3], [.int a3, .int a1, .ref 6], (zS (up2 I8 5 ((a1).toNatClampNeg) (a2 - 12)) J tg))) rfl ?_
          by_cases c44 : a3 = 0
          · rw [if_pos c44] at h
            refine Runs.brT (P := a3 = 0) (a := 72) (b := 63) (L := [.ref 0, .int a1, .int a2, .int a3]) (S := [.int a1, .ref 6]) (z := (zS (up2 I8 5 ((a1).toNatClampNeg) (a2 - 12)) J tg)) rfl c44 ?_
            refine Runs.sN 1 (c' := (73, [.ref 0, .int a1, .int a2, .int a3], [.int 0, .int a1, .ref 6], (zS (up2 I8 5 ((a1).toNatClampNeg) (a2 - 12)) J tg))) rfl ?_
            obtain ⟨c45, h⟩ := h
            obtain ⟨c46, h⟩ := h
            refine Runs.to (c' := (74, [.ref 0, .int a1, .int a2, .int a3], [], (zS (up2 (up2 I8 5 ((a1).toNatClampNeg) (a2 - 12)) 6 ((a1).toNatClampNeg) 0) J tg))) (Runs.zst rfl (show (6 : Nat) < 114 by decide) rfl c45 c46) ?_
            refine Runs.sN 1 (c' := (75, [.ref 0, .int a1, .int a2, .int a3], [.int 1], (zS (up2 (up2 I8 5 ((a1).toNatClampNeg) (a2 - 12)) 6 ((a1).toNatClampNeg) 0) J tg))) rfl ?_
            subst h
            exact Runs.rt rfl
          · rw [if_neg c44] at h
            refine Runs.brF (P := a3 = 0) (a := 72) (b := 63) (L := [.ref 0, .int a1, .int a2, .int a3]) (S := [.int a1, .ref 6]) (z := (zS (up2 I8 5 ((a1).toNatClampNeg) (a2 - 12)) J tg)) rfl c44 ?_
            refine Runs.sN 2 (c' := (65, [.ref 0, .int a1, .int a2, .int a3], [.int (-1), .int a2, .int a1, .ref 6], (zS (up2 I8 5 ((a1).toNatClampNeg) (a2 - 12)) J tg))) rfl ?_
            by_cases c47 : a2 = (-1)
            · rw [if_pos c47] at h
              refine Runs.brT (P := a2 = (-1)) (a := 72) (b := 68) (L := [.ref 0, .int a1, .int a2, .int a3]) (S := [.int a1, .ref 6]) (z := (zS (up2 I8 5 ((a1).toNatClampNeg) (a2 - 12)) J tg)) rfl c47 ?_
              refine Runs.sN 1 (c' := (73, [.ref 0, .int a1, .int a2, .int a3], [.int 0, .int a1, .ref 6], (zS (up2 I8 5 ((a1).toNatClampNeg) (a2 - 12)) J tg))) rfl ?_
              obtain ⟨c48, h⟩ := h
              obtain ⟨c49, h⟩ := h
              refine Runs.to (c' := (74, [.ref 0, .int a1, .int a2, .int a3], [], (zS (up2 (up2 I8 5 ((a1).toNatClampNeg) (a2 - 12)) 6 ((a1).toNatClampNeg) 0) J tg))) (Runs.zst rfl (show (6 : Nat) < 114 by decide) rfl c48 c49) ?_
              refine Runs.sN 1 (c' := (75, [.ref 0, .int a1, .int a2, .int a3], [.int 1], (zS (up2 (up2 I8 5 ((a1).toNatClampNeg) (a2 - 12)) 6 ((a1).toNatClampNeg) 0) J tg))) rfl ?_
              subst h
              exact Runs.rt rfl
            · rw [if_neg c47] at h
              refine Runs.brF (P := a2 = (-1)) (a := 72) (b := 68) (L := [.ref 0, .int a1, .int a2, .int a3]) (S := [.int a1, .ref 6]) (z := (zS (up2 I8 5 ((a1).toNatClampNeg) (a2 - 12)) J tg)) rfl c47 ?_
              refine Runs.sN 2 (c' := (73, [.ref 0, .int a1, .int a2, .int a3], [.int 1, .int a1, .ref 6], (zS (up2 I8 5 ((a1).toNatClampNeg) (a2 - 12)) J tg))) rfl ?_
              obtain ⟨c50, h⟩ := h
              obtain ⟨c51, h⟩ := h
              refine Runs.to (c' := (74, [.ref 0, .int a1, .int a2, .int a3], [], (zS (up2 (up2 I8 5 ((a1).toNatClampNeg) (a2 - 12)) 6 ((a1).toNatClampNeg) 1) J tg))) (Runs.zst rfl (show (6 : Nat) < 114 by decide) rfl c50 c51) ?_
              refine Runs.sN 1 (c' := (75, [.ref 0, .int a1, .int a2, .int a3], [.int 1], (zS (up2 (up2 I8 5 ((a1).toNatClampNeg) (a2 - 12)) 6 ((a1).toNatClampNeg) 1) J tg))) rfl ?_
              subst h
              exact Runs.rt rfl
-- X11_weights 
theorem sg_121 {L d : Nat} {xs : Nat → Int32} (I : Nat → Nat → Int32) (J : Nat → Nat → Int64) (tg : Option Nat) (a1 : Int32) (a2 : Int32) (a3 : Int32) (a4 : Int32) {r : Option Value × SS} (h : (∃ (v10 : Int32) (I11 : Nat → Nat → Int32), Runs (GW L xs) d 164 (0, [.int a1, .int 0, .int 99], [], (zS I J tg)) ((some (.int v10)), (zS I11 J tg)) ∧ (if v10 = 0 then (r = (some (.int 0), (zS I11 J tg))) else (∃ (v12 : Int32) (I13 : Nat → Nat → Int32), Runs (GW L xs) d 164 (0, [.int a2, .int 0, .int 99], [], (zS I11 J tg)) ((some (.int v12)), (zS I13 J tg)) ∧ (if v12 = 0 then (r = (some (.int 0), (zS I13 J tg))) else (∃ (v14 : Int32) (I15 : Nat → Nat → Int32), Runs (GW L xs) d 164 (0, [.int a3, .int 0, .int 99], [], (zS I13 J tg)) ((some (.int v14)), (zS I15 J tg)) ∧ (if v14 = 0 then (r = (some (.int 0), (zS I15 J tg))) else (∃ (v16 : Int32) (I17 : Nat → Nat → Int32), Runs (GW L xs) d 164 (0, [.int a4, .int 0, .int 99], [], (zS I15 J tg)) ((some (.int v16)), (zS I17 J tg)) ∧ (if v16 = 0 then (r = (some (.int 0), (zS I17 J tg))) else (∃ (I18 : Nat → Nat → Int32), Runs (GW L xs) d 60 (0, [.ref 70], [], (zS (up2 (up2 (up2 (up2 I17 1 2 a1) 1 3 a2) 1 4 a3) 1 5 a4) J tg)) (none, (zS I18 J tg)) ∧ r = (some (.int 1), (zS I18 J tg)))))))))))) : Runs (GW L xs) (d + 1) 121 (0, [.ref 0, .int a1, .int a2, .int a3, .int a4], [], (zS I J tg)) r := by
  refine Runs.sN 3 (c' := (4, [.ref 0, .int a1, .int a2, .int a3, .int a4], [.int 99, .int 0, .int a1], (zS I J tg))) rfl ?_
  obtain ⟨v10, I11, c19, h⟩ := h
  refine Runs.cl (cm := 164) (as := [.int a1, .int 0, .int 99]) (rest := []) (r1 := ((some (.int v10)), (zS I11 J tg))) rfl (Nat.le_of_ble_eq_true rfl) c19 ?_
  refine Runs.as (c' := (7, [.ref 0, .int a1, .int a2, .int a3, .int a4], [.int v10], (zS I11 J tg))) rfl ?_
  by_cases c20 : v10 = 0
  · rw [if_pos c20] at h
    refine Runs.brT (P := v10 = 0) (a := 41) (b := 10) (L := [.ref 0, .int a1, .int a2, .int a3, .int a4]) (S := []) (z := (zS I11 J tg)) rfl c20 ?_
    refine Runs.sN 1 (c' := (42, [.ref 0, .int a1, .int a2, .int a3, .int a4], [.int 0], (zS I11 J tg))) rfl ?_
    subst h
    exact Runs.rt rfl
  · rw [if_neg c20] at h
    refine Runs.brF (P := v10 = 0) (a := 41) (b := 10) (L := [.ref 0, .int a1, .int a2, .int a3, .int a4]) (S := []) (z := (zS I11 J tg)) rfl c20 ?_
    refine Runs.sN 3 (c' := (14, [.ref 0, .int a1, .int a2, .int a3, .int a4], [.int 99, .int 0, .int a2], (zS I11 J tg))) rfl ?_
    obtain ⟨v12, I13, c21, h⟩ := h
    refine Runs.cl (cm := 164) (as := [.int a2, .int 0, .int 99]) (rest := []) (r1 := ((some (.int v12)), (zS I13 J tg))) rfl (Nat.le_of_ble_eq_true rfl) c21 ?_
    refine Runs.as (c' := (17, [.ref 0, .int a1, .int a2, .int a3, .int a4], [.int v12], (zS I13 J tg))) rfl ?_
    by_cases c22 : v12 = 0
    · rw [if_pos c22] at h
      refine Runs.brT (P := v12 = 0) (a := 41) (b := 20) (L := [.ref 0, .int a1, .int a2, .int a3, .int a4]) (S := []) (z := (zS I13 J tg)) rfl c22 ?_
      refine Runs.sN 1 (c' := (42, [.ref 0, .int a1, .int a2, .int a3, .int a4], [.int 0], (zS I13 J tg))) rfl ?_
      subst h
      exact Runs.rt rfl
    · rw [if_neg c22] at h
      refine Runs.brF (P := v12 = 0) (a := 41) (b := 20) (L := [.ref 0, .int a1, .int a2, .int a3, .int a4]) (S := []) (z := (zS I13 J tg)) rfl c22 ?_
      refine Runs.sN 3 (c' := (24, [.ref 0, .int a1, .int a2, .int a3, .int a4], [.int 99, .int 0, .int a3], (zS I13 J tg))) rfl ?_
      obtain ⟨v14, I15, c23, h⟩ := h
      refine Runs.cl (cm := 164) (as := [.int a3, .int 0, .int 99]) (rest := []) (r1 := ((some (.int v14)), (zS I15 J tg))) rfl (Nat.le_of_ble_eq_true rfl) c23 ?_
      refine Runs.as (c' := (27, [.ref 0, .int a1, .int a2, .int a3, .int a4], [.int v14], (zS I15 J tg))) rfl ?_
      by_cases c24 : v14 = 0
      · rw [if_pos c24] at h
        refine Runs.brT (P := v14 = 0) (a := 41) (b := 30) (L := [.ref 0, .int a1, .int a2, .int a3, .int a4]) (S := []) (z := (zS I15 J tg)) rfl c24 ?_
        refine Runs.sN 1 (c' := (42, [.ref 0, .int a1, .int a2, .int a3, .int a4], [.int 0], (zS I15 J tg))) rfl ?_
        subst h
        exact Runs.rt rfl
      · rw [if_neg c24] at h
        refine Runs.brF (P := v14 = 0) (a := 41) (b := 30) (L := [.ref 0, .int a1, .int a2, .int a3, .int a4]) (S := []) (z := (zS I15 J tg)) rfl c24 ?_
        refine Runs.sN 3 (c' := (35, [.ref 0, .int a1, .int a2, .int a3, .int a4], [.int 99, .int 0, .int a4], (zS I15 J tg))) rfl ?_
        obtain ⟨v16, I17, c25, h⟩ := h
        refine Runs.cl (cm := 164) (as := [.int a4, .int 0, .int 99]) (rest := []) (r1 := ((some (.int v16)), (zS I17 J tg))) rfl (Nat.le_of_ble_eq_true rfl) c25 ?_
        refine Runs.as (c' := (38, [.ref 0, .int a1, .int a2, .int a3, .int a4], [.int v16], (zS I17 J tg))) rfl ?_
        by_cases c26 : v16 = 0
        · rw [if_pos c26] at h
          refine Runs.brT (P := v16 = 0) (a := 41) (b := 43) (L := [.ref 0, .int a1, .int a2, .int a3, .int a4]) (S := []) (z := (zS I17 J tg)) rfl c26 ?_
          refine Runs.sN 1 (c' := (42, [.ref 0, .int a1, .int a2, .int a3, .int a4], [.int 0], (zS I17 J tg))) rfl ?_
          subst h
          exact Runs.rt rfl
        · rw [if_neg c26] at h
          refine Runs.brF (P := v16 = 0) (a := 41) (b := 43) (L := [.ref 0, .int a1, .int a2, .int a3, .int a4]) (S := []) (z := (zS I17 J tg)) rfl c26 ?_
          refine Runs.sN 18 (c' := (80, [.ref 0, .int a1, .int a2, .int a3, .int a4], [.ref 70], (zS (up2 (up2 (up2 (up2 I17 1 2 a1) 1 3 a2) 1 4 a3) 1 5 a4) J tg))) rfl ?_
          obtain ⟨I18, c27, h⟩ := h
          refine Runs.cl (cm := 60) (as := [.ref 70]) (rest := []) (r1 := (none, (zS I18 J tg))) rfl (Nat.le_of_ble_eq_true rfl) c27 ?_
          refine Runs.as (c' := (83, [.ref 0, .int a1, .int a2, .int a3, .int a4], [], (zS I18 J tg))) rfl ?_
          refine Runs.sN 1 (c' := (84, [.ref 0, .int a1, .int a2, .int a3, .int a4], [.int 1], (zS I18 J tg))) rfl ?_
          subst h
          exact Runs.rt rfl
-- X11_far 
theorem sg_122 {L d : Nat} {xs : Nat → Int32} (I : Nat → Nat → Int32) (J : Nat → Nat → Int64) (tg : Option Nat) (a1 : Int32) (a2 : Int32) {r : Option Value × SS} (h : (∃ (v7 : Int32) (I8 : Nat → Nat → Int32), Runs (GW L xs) d 46 (0, [.ref 1, .int a1], [], (zS I J tg)) ((some (.int v7)), (zS I8 J tg)) ∧ (if v7 = 0 then (r = (some (.int (-1)), (zS I8 J tg))) else (∃ (v9 : Int32) (I10 : Nat → Nat → Int32), Runs (GW L xs) d 46 (0, [.ref 1, .int a2], [], (zS I8 J tg)) ((some (.int v9)), (zS I10 J tg)) ∧ (if v9 = 0 then (r = (some (.int (-1)), (zS I10 J tg))) else (∃ (v11 : Int32) (I12 : Nat → Nat → Int32), Runs (GW L xs) d 62 (0, [.ref 70, .int a1, .int a2, vU], [], (zS I10 J tg)) ((some (.int v11)), (zS I12 J tg)) ∧ r = (some (.int v11), (zS I12 J tg)))))))) : Runs (GW L xs) (d + 1) 122 (0, [.ref 0, .int a1, .int a2], [], (zS I J tg)) r := by
  refine Runs.sN 3 (c' := (5, [.ref 0, .int a1, .int a2], [.int a1, .ref 1], (zS I J tg))) rfl ?_
  obtain ⟨v7, I8, c13, h⟩ := h
  refine Runs.cl (cm := 46) (as := [.ref 1, .int a1]) (rest := []) (r1 := ((some (.int v7)), (zS I8 J tg))) rfl (Nat.le_of_ble_eq_true rfl) c13 ?_
  refine Runs.as (c' := (8, [.ref 0, .int a1, .int a2], [.int v7], (zS I8 J tg))) rfl ?_
  by_cases c14 : v7 = 0
  · rw [if_pos c14] at h
    refine Runs.brT (P := v7 = 0) (a := 22) (b := 11) (L := [.ref 0, .int a1, .int a2]) (S := []) (z := (zS I8 J tg)) rfl c14 ?_
    refine Runs.sN 1 (c' := (23, [.ref 0, .int a1, .int a2], [.int (-1)], (zS I8 J tg))) rfl ?_
    subst h
    exact Runs.rt rfl
  · rw [if_neg c14] at h
    refine Runs.brF (P := v7 = 0) (a := 22) (b := 11) (L := [.ref 0, .int a1, .int a2]) (S := []) (z := (zS I8 J tg)) rfl c14 ?_
    refine Runs.sN 3 (c' := (16, [.ref 0, .int a1, .int a2], [.int a2, .ref 1], (zS I8 J tg))) rfl ?_
    obtain ⟨v9, I10, c15, h⟩ := h
    refine Runs.cl (cm := 46) (as := [.ref 1, .int a2]) (rest := []) (r1 := ((some (.int v9)), (zS I10 J tg))) rfl (Nat.le_of_ble_eq_true rfl) c15 ?_
    refine Runs.as (c' := (19, [.ref 0, .int a1, .int a2], [.int v9], (zS I10 J tg))) rfl ?_
    by_cases c16 : v9 = 0
    · rw [if_pos c16] at h
      refine Runs.brT (P := v9 = 0) (a := 22) (b := 24) (L := [.ref 0, .int a1, .int a2]) (S := []) (z := (zS I10 J tg)) rfl c16 ?_
      refine Runs.sN 1 (c' := (23, [.ref 0, .int a1, .int a2], [.int (-1)], (zS I10 J tg))) rfl ?_
      subst h
      exact Runs.rt rfl
    · rw [if_neg c16] at h
      refine Runs.brF (P := v9 = 0) (a := 22) (b := 24) (L := [.ref 0, .int a1, .int a2]) (S := []) (z := (zS I10 J tg)) rfl c16 ?_
      refine Runs.sN 4 (c' := (30, [.ref 0, .int a1, .int a2], [.int a2, .int a1, .ref 70], (zS I10 J tg))) rfl ?_
      obtain ⟨v11, I12, c17, h⟩ := h
      refine Runs.cl (cm := 62) (as := [.ref 70, .int a1, .int a2]) (rest := []) (r1 := ((some (.int v11)), (zS I12 J tg))) rfl (Nat.le_of_ble_eq_true rfl) c17 ?_
      refine Runs.as (c' := (33, [.ref 0, .int a1, .int a2], [.int v11], (zS I12 J tg))) rfl ?_
      subst h
      exact Runs.rt rfl
-- X11_land 
theorem sg_123 {L d : Nat} {xs : Nat → Int32} (I : Nat → Nat → Int32) (J : Nat → Nat → Int64) (tg : Option Nat) (a1 : Int32) (a2 : Int32) (a3 : Int32) {r : Option Value × SS} (h : (∃ (v7 : Int32) (I8 : Nat → Nat → Int32), Runs (GW L xs) d 165 (0, [.int a1], [], (zS I J tg)) ((some (.int v7)), (zS I8 J tg)) ∧ (if v7 = 0 then (r = (some (.int 0), (zS I8 J tg))) else (∃ (v9 : Int32) (I10 : Nat → Nat → Int32), Runs (GW L xs) d 164 (0, [.int a2, .int 0, .int 99], [], (zS I8 J tg)) ((some (.int v9)), (zS I10 J tg)) ∧ (if v9 = 0 then (r = (some (.int 0), (zS I10 J tg))) else (¬ (a1 < 0 ∨ 6 ≤ (a1).toNatClampNeg) ∧ ∃ (v11 : Int32) (I12 : Nat → Nat → Int32), Runs (GW L xs) d 48 (0, [.ref 1], [], (zS (up2 I10 8 ((a1).toNatClampNeg) a2) J tg)) ((some (.int v11)), (zS I12 J tg)) ∧ ¬ (a1 < 0 ∨ 6 ≤ (a1).toNatClampNeg) ∧ r = (some (.int 1), (zS (up2 I12 9 ((a1).toNatClampNeg) (a3 &&& v11)) J tg)))))))) : Runs (GW L xs) (d + 1) 123 (0, [.ref 0, .int a1, .int a2, .int a3], [], (zS I J tg)) r := by
  refine Runs.sN 1 (c' := (1, [.ref 0, .int a1, .int a2, .int a3], [.int a1], (zS I J tg))) rfl ?_
  obtain ⟨v7, I8, c13, h⟩ := h
  refine Runs.cl (cm := 165) (as := [.int a1]) (rest := []) (r1 := ((some (.int v7)), (zS I8 J tg))) rfl (Nat.le_of_ble_eq_true rfl) c13 ?_
  refine Runs.as (c' := (4, [.ref 0, .int a1, .int a2, .int a3], [.int v7], (zS I8 J tg))) rfl ?_
  by_cases c14 : v7 = 0
  · rw [if_pos c14] at h
    refine Runs.brT (P := v7 = 0) (a := 17) (b := 7) (L := [.ref 0, .int a1, .int a2, .int a3]) (S := []) (z := (zS I8 J tg)) rfl c14 ?_
    refine Runs.sN 1 (c' := (18, [.ref 0, .int a1, .int a2, .int a3], [.int 0], (zS I8 J tg))) rfl ?_
    subst h
    exact Runs.rt rfl
  · rw [if_neg c14] at h
    refine Runs.brF (P := v7 = 0) (a := 17) (b := 7) (L := [.ref 0, .int a1, .int a2, .int a3]) (S := []) (z := (zS I8 J tg)) rfl c14 ?_
    refine Runs.sN 3 (c' := (11, [.ref 0, .int a1, .int a2, .int a3], [.int 99, .int 0, .int a2], (zS I8 J tg))) rfl ?_
    obtain ⟨v9, I10, c15, h⟩ := h
    refine Runs.cl (cm := 164) (as := [.int a2, .int 0, .int 99]) (rest := []) (r1 := ((some (.int v9)), (zS I10 J tg))) rfl (Nat.le_of_ble_eq_true rfl) c15 ?_
    refine Runs.as (c' := (14, [.ref 0, .int a1, .int a2, .int a3], [.int v9], (zS I10 J tg))) rfl ?_
    by_cases c16 : v9 = 0
    · rw [if_pos c16] at h
      refine Runs.brT (P := v9 = 0) (a := 17) (b := 19) (L := [.ref 0, .int a1, .int a2, .int a3]) (S := []) (z := (zS I10 J tg)) rfl c16 ?_
      refine Runs.sN 1 (c' := (18, [.ref 0, .int a1, .int a2, .int a3], [.int 0], (zS I10 J tg))) rfl ?_
      subst h
      exact Runs.rt rfl
    · rw [if_neg c16] at h
      refine Runs.brF (P := v9 = 0) (a := 17) (b := 19) (L := [.ref 0, .int a1, .int a2, .int a3]) (S := []) (z := (zS I10 J tg)) rfl c16 ?_
      refine Runs.sN 5 (c' := (28, [.ref 0, .int a1, .int a2, .int a3], [.int a2, .int a1, .ref 8], (zS I10 J tg))) rfl ?_
      obtain ⟨c17, h⟩ := h
      refine Runs.to (c' := (29, [.ref 0, .int a1, .int a2, .int a3], [], (zS (up2 I10 8 ((a1).toNatClampNeg) a2) J tg))) (Runs.ist rfl (show (8 : Nat) < 114 by decide) rfl c17) ?_
      refine Runs.sN 7 (c' := (42, [.ref 0, .int a1, .int a2, .int a3], [.ref 1, .int a3, .int a1, .ref 9], (zS (up2 I10 8 ((a1).toNatClampNeg) a2) J tg))) rfl ?_
      obtain ⟨v11, I12, c18, h⟩ := h
      refine Runs.cl (cm := 48) (as := [.ref 1]) (rest := [.int a3, .int a1, .ref 9]) (r1 := ((some (.int v11)), (zS I12 J tg))) rfl (Nat.le_of_ble_eq_true rfl) c18 ?_
      refine Runs.as (c' := (45, [.ref 0, .int a1, .int a2, .int a3], [.int v11, .int a3, .int a1, .ref 9], (zS I12 J tg))) rfl ?_
      refine Runs.sN 1 (c' := (46, [.ref 0, .int a1, .int a2, .int a3], [.int (a3 &&& v11), .int a1, .ref 9], (zS I12 J tg))) rfl ?_
      obtain ⟨c19, h⟩ := h
      refine Runs.to (c' := (47, [.ref 0, .int a1, .int a2, .int a3], [], (zS (up2 I12 9 ((a1).toNatClampNeg) (a3 &&& v11)) J tg))) (Runs.ist rfl (show (9 : Nat) < 114 by decide) rfl c19) ?_
      refine Runs.sN 1 (c' := (48, [.ref 0, .int a1, .int a2, .int a3], [.int 1], (zS (up2 I12 9 ((a1).toNatClampNeg) (a3 &&& v11)) J tg))) rfl ?_
      subst h
      exact Runs.rt rfl
-- X11_lean 
theorem sg_124 {L d : Nat} {xs : Nat → Int32} (I : Nat → Nat → Int32) (J : Nat → Nat → Int64) (tg : Option Nat) (a1 : Int32) (a2 : Int32) (a3 : Int32) {r : Option Value × SS} (h : (∃ (v7 : Int32) (I8 : Nat → Nat → Int32), Runs (GW L xs) d 166 (0, [.int a1], [], (zS I J tg)) ((some (.int v7)), (zS I8 J tg)) ∧ (if v7 = 0 then (r = (some (.int 0), (zS I8 J tg))) else (∃ (v9 : Int32) (I10 : Nat → Nat → Int32), Runs (GW L xs) d 45 (0, [.ref 1, .int a2], [], (zS I8 J tg)) ((some (.int v9)), (zS I10 J tg)) ∧ (if v9 = 0 then (r = (some (.int 0), (zS I10 J tg))) else (∃ (v11 : Int32) (I12 : Nat → Nat → Int32), Runs (GW L xs) d 164 (0, [.int a3, .int 0, .int 99], [], (zS I10 J tg)) ((some (.int v11)), (zS I12 J tg)) ∧ (if v11 = 0 then (r = (some (.int 0), (zS I12 J tg))) else (¬ ((((a1 * 12) + a2) - 12) < 0 ∨ 72 ≤ (((a1 * 12) + a2) - 12).toNatClampNeg) ∧ r = (some (.int 1), (zS (up2 I12 10 ((((a1 * 12) + a2) - 12).toNatClampNeg) a3) J tg)))))))))) : Runs (GW L xs) (d + 1) 124 (0, [.ref 0, .int a1, .int a2, .int a3], [], (zS I J tg)) r := by
  refine Runs.sN 1 (c' := (1, [.ref 0, .int a1, .int a2, .int a3], [.int a1], (zS I J tg))) rfl ?_
  obtain ⟨v7, I8, c13, h⟩ := h
  refine Runs.cl (cm := 166) (as := [.int a1]) (rest := []) (r1 := ((some (.int v7)), (zS I8 J tg))) rfl (Nat.le_of_ble_eq_true rfl) c13 ?_
  refine Runs.as (c' := (4, [.ref 0, .int a1, .int a2, .int a3], [.int v7], (zS I8 J tg))) rfl ?_
  by_cases c14 : v7 = 0
  · rw [if_pos c14] at h
    refine Runs.brT (P := v7 = 0) (a := 28) (b := 7) (L := [.ref 0, .int a1, .int a2, .int a3]) (S := []) (z := (zS I8 J tg)) rfl c14 ?_
    refine Runs.sN 1 (c' := (29, [.ref 0, .int a1, .int a2, .int a3], [.int 0], (zS I8 J tg))) rfl ?_
    subst h
    exact Runs.rt rfl
  · rw [if_neg c14] at h
    refine Runs.brF (P := v7 = 0) (a := 28) (b := 7) (L := [.ref 0, .int a1, .int a2, .int a3]) (S := []) (z := (zS I8 J tg)) rfl c14 ?_
    refine Runs.sN 3 (c' := (12, [.ref 0, .int a1, .int a2, .int a3], [.int a2, .ref 1], (zS I8 J tg))) rfl ?_
    obtain ⟨v9, I10, c15, h⟩ := h
    refine Runs.cl (cm := 45) (as := [.ref 1, .int a2]) (rest := []) (r1 := ((some (.int v9)), (zS I10 J tg))) rfl (Nat.le_of_ble_eq_true rfl) c15 ?_
    refine Runs.as (c' := (15, [.ref 0, .int a1, .int a2, .int a3], [.int v9], (zS I10 J tg))) rfl ?_
    by_cases c16 : v9 = 0
    · rw [if_pos c16] at h
      refine Runs.brT (P := v9 = 0) (a := 28) (b := 18) (L := [.ref 0, .int a1, .int a2, .int a3]) (S := []) (z := (zS I10 J tg)) rfl c16 ?_
      refine Runs.sN 1 (c' := (29, [.ref 0, .int a1, .int a2, .int a3], [.int 0], (zS I10 J tg))) rfl ?_
      subst h
      exact Runs.rt rfl
    · rw [if_neg c16] at h
      refine Runs.brF (P := v9 = 0) (a := 28) (b := 18) (L := [.ref 0, .int a1, .int a2, .int a3]) (S := []) (z := (zS I10 J tg)) rfl c16 ?_
      refine Runs.sN 3 (c' := (22, [.ref 0, .int a1, .int a2, .int a3], [.int 99, .int 0, .int a3], (zS I10 J tg))) rfl ?_
      obtain ⟨v11, I12, c17, h⟩ := h
      refine Runs.cl (cm := 164) (as := [.int a3, .int 0, .int 99]) (rest := []) (r1 := ((some (.int v11)), (zS I12 J tg))) rfl (Nat.le_of_ble_eq_true rfl) c17 ?_
      refine Runs.as (c' := (25, [.ref 0, .int a1, .int a2, .int a3], [.int v11], (zS I12 J tg))) rfl ?_
      by_cases c18 : v11 = 0
      · rw [if_pos c18] at h
        refine Runs.brT (P := v11 = 0) (a := 28) (b := 30) (L := [.ref 0, .int a1, .int a2, .int a3]) (S := []) (z := (zS I12 J tg)) rfl c18 ?_
        refine Runs.sN 1 (c' := (29, [.ref 0, .int a1, .int a2, .int a3], [.int 0], (zS I12 J tg))) rfl ?_
        subst h
        exact Runs.rt rfl
      · rw [if_neg c18] at h
        refine Runs.brF (P := v11 = 0) (a := 28) (b := 30) (L := [.ref 0, .int a1, .int a2, .int a3]) (S := []) (z := (zS I12 J tg)) rfl c18 ?_
        refine Runs.sN 11 (c' := (47, [.ref 0, .int a1, .int a2, .int a3], [.int a3, .int (((a1 * 12) + a2) - 12), .ref 10], (zS I12 J tg))) rfl ?_
        obtain ⟨c19, h⟩ := h
        refine Runs.to (c' := (48, [.ref 0, .int a1, .int a2, .int a3], [], (zS (up2 I12 10 ((((a1 * 12) + a2) - 12).toNatClampNeg) a3) J tg))) (Runs.ist rfl (show (10 : Nat) < 114 by decide) rfl c19) ?_
        refine Runs.sN 1 (c' := (49, [.ref 0, .int a1, .int a2, .int a3], [.int 1], (zS (up2 I12 10 ((((a1 * 12) + a2) - 12).toNatClampNeg) a3) J tg))) rfl ?_
        subst h
        exact Runs.rt rfl
-- X11_rules 
theorem sg_125 {L d : Nat} {xs : Nat → Int32} (I : Nat → Nat → Int32) (J : Nat → Nat → Int64) (tg : Option Nat) (a1 : Int32) (a2 : Int32) (a3 : Int32) (a4 : Int32) {r : Option Value × SS} (h : (∃ (v9 : Int32) (I10 : Nat → Nat → Int32), Runs (GW L xs) d 164 (0, [.int a1, .int 0, .int 999], [], (zS I J tg)) ((some (.int v9)), (zS I10 J tg)) ∧ (if v9 = 0 then (r = (some (.int 0), (zS I10 J tg))) else (∃ (v11 : Int32) (I12 : Nat → Nat → Int32), Runs (GW L xs) d 164 (0, [.int a2, .int 0, .int 99], [], (zS I10 J tg)) ((some (.int v11)), (zS I12 J tg)) ∧ (if v11 = 0 then (r = (some (.int 0), (zS I12 J tg))) else (∃ (v13 : Int32) (I14 : Nat → Nat → Int32), Runs (GW L xs) d 164 (0, [.int a3, .int 1, .int 1000], [], (zS I12 J tg)) ((some (.int v13)), (zS I14 J tg)) ∧ (if v13 = 0 then (r = (some (.int 0), (zS I14 J tg))) else (∃ (v15 : Int32) (I16 : Nat → Nat → Int32), Runs (GW L xs) d 164 (0, [.int a4, .int 0, .int 1000], [], (zS I14 J tg)) ((some (.int v15)), (zS I16 J tg)) ∧ (if v15 = 0 then (r = (some (.int 0), (zS I16 J tg))) else (r = (some (.int 1), (zS (up2 (up2 (up2 (up2 I16 7 0 a1) 7 1 a2) 7 2 a3) 7 3 a4) J tg)))))))))))) : Runs (GW L xs) (d + 1) 125 (0, [.ref 0, .int a1, .int a2, .int a3, .int a4], [], (zS I J tg)) r := by
  refine Runs.sN 3 (c' := (5, [.ref 0, .int a1, .int a2, .int a3, .int a4], [.int 999, .int 0, .int a1], (zS I J tg))) rfl ?_
  obtain ⟨v9, I10, c17, h⟩ := h
  refine Runs.cl (cm := 164) (as := [.int a1, .int 0, .int 999]) (rest := []) (r1 := ((some (.int v9)), (zS I10 J tg))) rfl (Nat.le_of_ble_eq_true rfl) c17 ?_
  refine Runs.as (c' := (8, [.ref 0, .int a1, .int a2, .int a3, .int a4], [.int v9], (zS I10 J tg))) rfl ?_
  by_cases c18 : v9 = 0
  · rw [if_pos c18] at h
    refine Runs.brT (P := v9 = 0) (a := 44) (b := 11) (L := [.ref 0, .int a1, .int a2, .int a3, .int a4]) (S := []) (z := (zS I10 J tg)) rfl c18 ?_
    refine Runs.sN 1 (c' := (45, [.ref 0, .int a1, .int a2, .int a3, .int a4], [.int 0], (zS I10 J tg))) rfl ?_
    subst h
    exact Runs.rt rfl
  · rw [if_neg c18] at h
    refine Runs.brF (P := v9 = 0) (a := 44) (b := 11) (L := [.ref 0, .int a1, .int a2, .int a3, .int a4]) (S := []) (z := (zS I10 J tg)) rfl c18 ?_
    refine Runs.sN 3 (c' := (15, [.ref 0, .int a1, .int a2, .int a3, .int a4], [.int 99, .int 0, .int a2], (zS I10 J tg))) rfl ?_
    obtain ⟨v11, I12, c19, h⟩ := h
    refine Runs.cl (cm := 164) (as := [.int a2, .int 0, .int 99]) (rest := []) (r1 := ((some (.int v11)), (zS I12 J tg))) rfl (Nat.le_of_ble_eq_true rfl) c19 ?_
    refine Runs.as (c' := (18, [.ref 0, .int a1, .int a2, .int a3, .int a4], [.int v11], (zS I12 J tg))) rfl ?_
    by_cases c20 : v11 = 0
    · rw [if_pos c20] at h
      refine Runs.brT (P := v11 = 0) (a := 44) (b := 21) (L := [.ref 0, .int a1, .int a2, .int a3, .int a4]) (S := []) (z := (zS I12 J tg)) rfl c20 ?_
      refine Runs.sN 1 (c' := (45, [.ref 0, .int a1, .int a2, .int a3, .int a4], [.int 0], (zS I12 J tg))) rfl ?_
      subst h
      exact Runs.rt rfl
    · rw [if_neg c20] at h
      refine Runs.brF (P := v11 = 0) (a := 44) (b := 21) (L := [.ref 0, .int a1, .int a2, .int a3, .int a4]) (S := []) (z := (zS I12 J tg)) rfl c20 ?_
      refine Runs.sN 3 (c' := (26, [.ref 0, .int a1, .int a2, .int a3, .int a4], [.int 1000, .int 1, .int a3], (zS I12 J tg))) rfl ?_
      obtain ⟨v13, I14, c21, h⟩ := h
      refine Runs.cl (cm := 164) (as := [.int a3, .int 1, .int 1000]) (rest := []) (r1 := ((some (.int v13)), (zS I14 J tg))) rfl (Nat.le_of_ble_eq_true rfl) c21 ?_
      refine Runs.as (c' := (29, [.ref 0, .int a1, .int a2, .int a3, .int a4], [.int v13], (zS I14 J tg))) rfl ?_
      by_cases c22 : v13 = 0
      · rw [if_pos c22] at h
        refine Runs.brT (P := v13 = 0) (a := 44) (b := 32) (L := [.ref 0, .int a1, .int a2, .int a3, .int a4]) (S := []) (z := (zS I14 J tg)) rfl c22 ?_
        refine Runs.sN 1 (c' := (45, [.ref 0, .int a1, .int a2, .int a3, .int a4], [.int 0], (zS I14 J tg))) rfl ?_
        subst h
        exact Runs.rt rfl
      · rw [if_neg c22] at h
        refine Runs.brF (P := v13 = 0) (a := 44) (b := 32) (L := [.ref 0, .int a1, .int a2, .int a3, .int a4]) (S := []) (z := (zS I14 J tg)) rfl c22 ?_
        refine Runs.sN 3 (c' := (38, [.ref 0, .int a1, .int a2, .int a3, .int a4], [.int 1000, .int 0, .int a4], (zS I14 J tg))) rfl ?_
        obtain ⟨v15, I16, c23, h⟩ := h
        refine Runs.cl (cm := 164) (as := [.int a4, .int 0, .int 1000]) (rest := []) (r1 := ((some (.int v15)), (zS I16 J tg))) rfl (Nat.le_of_ble_eq_true rfl) c23 ?_
        refine Runs.as (c' := (41, [.ref 0, .int a1, .int a2, .int a3, .int a4], [.int v15], (zS I16 J tg))) rfl ?_
        by_cases c24 : v15 = 0
        · rw [if_pos c24] at h
          refine Runs.brT (P := v15 = 0) (a := 44) (b := 46) (L := [.ref 0, .int a1, .int a2, .int a3, .int a4]) (S := []) (z := (zS I16 J tg)) rfl c24 ?_
          refine Runs.sN 1 (c' := (45, [.ref 0, .int a1, .int a2, .int a3, .int a4], [.int 0], (zS I16 J tg))) rfl ?_
          subst h
          exact Runs.rt rfl
        · rw [if_neg c24] at h
          refine Runs.brF (P := v15 = 0) (a := 44) (b := 46) (L := [.ref 0, .int a1, .int a2, .int a3, .int a4]) (S := []) (z := (zS I16 J tg)) rfl c24 ?_
          refine Runs.sN 17 (c' := (80, [.ref 0, .int a1, .int a2, .int a3, .int a4], [.int 1], (zS (up2 (up2 (up2 (up2 I16 7 0 a1) 7 1 a2) 7 2 a3) 7 3 a4) J tg))) rfl ?_
          subst h
          exact Runs.rt rfl
-- X11_feed 
theorem sg_126 {L d : Nat} {xs : Nat → Int32} (I : Nat → Nat → Int32) (J : Nat → Nat → Int64) (tg : Option Nat) (a1 : Int32) (a2 : Int32) (a3 : Int32) (a4 : Int32) (a5 : Int32) {r : Option Value × SS} (h : ((if ((I 67 2) + 20) ≤ 300 then (∃ (I6 : Nat → Nat → Int32), Runs (GW L xs) d 69 (0, [.ref 67, .int a1, vU], [], (zS I J tg)) (none, (zS I6 J tg)) ∧ ∃ (I7 : Nat → Nat → Int32), Runs (GW L xs) d 69 (0, [.ref 67, .int a2, vU], [], (zS I6 J tg)) (none, (zS I7 J tg)) ∧ ∃ (I8 : Nat → Nat → Int32), Runs (GW L xs) d 69 (0, [.ref 67, .int a3, vU], [], (zS I7 J tg)) (none, (zS I8 J tg)) ∧ ∃ (I9 : Nat → Nat → Int32), Runs (GW L xs) d 69 (0, [.ref 67, .int a4, vU], [], (zS I8 J tg)) (none, (zS I9 J tg)) ∧ ∃ (I10 : Nat → Nat → Int32), Runs (GW L xs) d 69 (0, [.ref 67, .int a5, vU], [], (zS I9 J tg)) (none, (zS I10 J tg)) ∧ r = (some (.int (I10 67 2)), (zS I10 J tg))) else (r = (some (.int (-1)), (zS I J tg)))))) : Runs (GW L xs) (d + 1) 126 (0, [.ref 0, .int a1, .int a2, .int a3, .int a4, .int a5], [], (zS I J tg)) r := by
  refine Runs.sN 6 (c' := (13, [.ref 0, .int a1, .int a2, .int a3, .int a4, .int a5], [.int 300, .int ((I 67 2) + 20)], (zS I J tg))) rfl ?_
  by_cases c11 : ((I 67 2) + 20) ≤ 300
  · rw [if_pos c11] at h
    refine Runs.brT (P := ((I 67 2) + 20) ≤ 300) (a := 18) (b := 16) (L := [.ref 0, .int a1, .int a2, .int a3, .int a4, .int a5]) (S := []) (z := (zS I J tg)) rfl c11 ?_
    refine Runs.sN 3 (c' := (23, [.ref 0, .int a1, .int a2, .int a3, .int a4, .int a5], [.int a1, .ref 67], (zS I J tg))) rfl ?_
    obtain ⟨I6, c12, h⟩ := h
    refine Runs.cl (cm := 69) (as := [.ref 67, .int a1]) (rest := []) (r1 := (none, (zS I6 J tg))) rfl (Nat.le_of_ble_eq_true rfl) c12 ?_
    refine Runs.as (c' := (26, [.ref 0, .int a1, .int a2, .int a3, .int a4, .int a5], [], (zS I6 J tg))) rfl ?_
    refine Runs.sN 3 (c' := (31, [.ref 0, .int a1, .int a2, .int a3, .int a4, .int a5], [.int a2, .ref 67], (zS I6 J tg))) rfl ?_
    obtain ⟨I7, c13, h⟩ := h
    refine Runs.cl (cm := 69) (as := [.ref 67, .int a2]) (rest := []) (r1 := (none, (zS I7 J tg))) rfl (Nat.le_of_ble_eq_true rfl) c13 ?_
    refine Runs.as (c' := (34, [.ref 0, .int a1, .int a2, .int a3, .int a4, .int a5], [], (zS I7 J tg))) rfl ?_
    refine Runs.sN 3 (c' := (39, [.ref 0, .int a1, .int a2, .int a3, .int a4, .int a5], [.int a3, .ref 67], (zS I7 J tg))) rfl ?_
    obtain ⟨I8, c14, h⟩ := h
    refine Runs.cl (cm := 69) (as := [.ref 67, .int a3]) (rest := []) (r1 := (none, (zS I8 J tg))) rfl (Nat.le_of_ble_eq_true rfl) c14 ?_
    refine Runs.as (c' := (42, [.ref 0, .int a1, .int a2, .int a3, .int a4, .int a5], [], (zS I8 J tg))) rfl ?_
    refine Runs.sN 3 (c' := (48, [.ref 0, .int a1, .int a2, .int a3, .int a4, .int a5], [.int a4, .ref 67], (zS I8 J tg))) rfl ?_
    obtain ⟨I9, c15, h⟩ := h
    refine Runs.cl (cm := 69) (as := [.ref 67, .int a4]) (rest := []) (r1 := (none, (zS I9 J tg))) rfl (Nat.le_of_ble_eq_true rfl) c15 ?_
    refine Runs.as (c' := (51, [.ref 0, .int a1, .int a2, .int a3, .int a4, .int a5], [], (zS I9 J tg))) rfl ?_
    refine Runs.sN 3 (c' := (57, [.ref 0, .int a1, .int a2, .int a3, .int a4, .int a5], [.int a5, .ref 67], (zS I9 J tg))) rfl ?_
    obtain ⟨I10, c16, h⟩ := h
    refine Runs.cl (cm := 69) (as := [.ref 67, .int a5]) (rest := []) (r1 := (none, (zS I10 J tg))) rfl (Nat.le_of_ble_eq_true rfl) c16 ?_
    refine Runs.as (c' := (60, [.ref 0, .int a1, .int a2, .int a3, .int a4, .int a5], [], (zS I10 J tg))) rfl ?_
    refine Runs.sN 3 (c' := (67, [.ref 0, .int a1, .int a2, .int a3, .int a4, .int a5], [.int (I10 67 2)], (zS I10 J tg))) rfl ?_
    subst h
    exact Runs.rt rfl
  · rw [if_neg c11] at h
    refine Runs.brF (P := ((I 67 2) + 20) ≤ 300) (a := 18) (b := 16) (L := [.ref 0, .int a1, .int a2, .int a3, .int a4, .int a5]) (S := []) (z := (zS I J tg)) rfl c11 ?_
    refine Runs.sN 1 (c' := (17, [.ref 0, .int a1, .int a2, .int a3, .int a4, .int a5], [.int (-1)], (zS I J tg))) rfl ?_
    subst h
    exact Runs.rt rfl
-- X11_end 
theorem sg_127 {L d : Nat} {xs : Nat → Int32} (I : Nat → Nat → Int32) (J : Nat → Nat → Int64) (tg : Option Nat) (a1 : Int32) {r : Option Value × SS} (h : (∃ (v3 : Int32) (I4 : Nat → Nat → Int32), Runs (GW L xs) d 164 (0, [.int a1, .int 0, .int (I 67 2)], [], (zS I J tg)) ((some (.int v3)), (zS I4 J tg)) ∧ (if v3 = 0 then (r = (some (.int (-1)), (zS I4 J tg))) else (r = (some (.int a1), (zS (up2 I4 67 2 a1) J tg)))))) : Runs (GW L xs) (d + 1) 127 (0, [.ref 0, .int a1], [], (zS I J tg)) r := by
  refine Runs.sN 5 (c' := (9, [.ref 0, .int a1], [.int (I 67 2), .int 0, .int a1], (zS I J tg))) rfl ?_
  obtain ⟨v3, I4, c5, h⟩ := h
  refine Runs.cl (cm := 164) (as := [.int a1, .int 0, .int (I 67 2)]) (rest := []) (r1 := ((some (.int v3)), (zS I4 J tg))) rfl (Nat.le_of_ble_eq_true rfl) c5 ?_
  refine Runs.as (c' := (12, [.ref 0, .int a1], [.int v3], (zS I4 J tg))) rfl ?_
  by_cases c6 : v3 = 0
  · rw [if_pos c6] at h
    refine Runs.brT (P := v3 = 0) (a := 15) (b := 17) (L := [.ref 0, .int a1]) (S := []) (z := (zS I4 J tg)) rfl c6 ?_
    refine Runs.sN 1 (c' := (16, [.ref 0, .int a1], [.int (-1)], (zS I4 J tg))) rfl ?_
    subst h
    exact Runs.rt rfl
  · rw [if_neg c6] at h
    refine Runs.brF (P := v3 = 0) (a := 15) (b := 17) (L := [.ref 0, .int a1]) (S := []) (z := (zS I4 J tg)) rfl c6 ?_
    refine Runs.sN 5 (c' := (26, [.ref 0, .int a1], [.int a1], (zS (up2 I4 67 2 a1) J tg))) rfl ?_
    subst h
    exact Runs.rt rfl
-- X11_fault 
theorem sg_129 {L d : Nat} {xs : Nat → Int32} (I : Nat → Nat → Int32) (J : Nat → Nat → Int64) (tg : Option Nat) (a1 : Int32) {r : Option Value × SS} (h : ((if (I 67 3) = 0 then (r = (some (.int (-1)), (zS I J tg))) else ((if a1 = 0 then (r = (some (.int (I 67 4)), (zS I J tg))) else ((if a1 = 1 then (r = (some (.int (I 67 5)), (zS I J tg))) else (r = (some (.int (-1)), (zS I J tg)))))))))) : Runs (GW L xs) d 129 (0, [.ref 0, .int a1], [], (zS I J tg)) r := by
  refine Runs.sN 3 (c' := (7, [.ref 0, .int a1], [.int (I 67 3)], (zS I J tg))) rfl ?_
  by_cases c1 : (I 67 3) = 0
  · rw [if_pos c1] at h
    refine Runs.brT (P := (I 67 3) = 0) (a := 10) (b := 12) (L := [.ref 0, .int a1]) (S := []) (z := (zS I J tg)) rfl c1 ?_
    refine Runs.sN 1 (c' := (11, [.ref 0, .int a1], [.int (-1)], (zS I J tg))) rfl ?_
    subst h
    exact Runs.rt rfl
  · rw [if_neg c1] at h
    refine Runs.brF (P := (I 67 3) = 0) (a := 10) (b := 12) (L := [.ref 0, .int a1]) (S := []) (z := (zS I J tg)) rfl c1 ?_
    refine Runs.sN 1 (c' := (13, [.ref 0, .int a1], [.int a1], (zS I J tg))) rfl ?_
    by_cases c2 : a1 = 0
    · rw [if_pos c2] at h
      refine Runs.brT (P := a1 = 0) (a := 16) (b := 24) (L := [.ref 0, .int a1]) (S := []) (z := (zS I J tg)) rfl c2 ?_
      refine Runs.sN 3 (c' := (23, [.ref 0, .int a1], [.int (I 67 4)], (zS I J tg))) rfl ?_
      subst h
      exact Runs.rt rfl
    · rw [if_neg c2] at h
      refine Runs.brF (P := a1 = 0) (a := 16) (b := 24) (L := [.ref 0, .int a1]) (S := []) (z := (zS I J tg)) rfl c2 ?_
      refine Runs.sN 2 (c' := (26, [.ref 0, .int a1], [.int 1, .int a1], (zS I J tg))) rfl ?_
      by_cases c3 : a1 = 1
      · rw [if_pos c3] at h
        refine Runs.brT (P := a1 = 1) (a := 29) (b := 39) (L := [.ref 0, .int a1]) (S := []) (z := (zS I J tg)) rfl c3 ?_
        refine Runs.sN 4 (c' := (40, [.ref 0, .int a1], [.int (I 67 5)], (zS I J tg))) rfl ?_
        subst h
        exact Runs.rt rfl
      · rw [if_neg c3] at h
        refine Runs.brF (P := a1 = 1) (a := 29) (b := 39) (L := [.ref 0, .int a1]) (S := []) (z := (zS I J tg)) rfl c3 ?_
        refine Runs.sN 1 (c' := (40, [.ref 0, .int a1], [.int (-1)], (zS I J tg))) rfl ?_
        subst h
        exact Runs.rt rfl
-- X11_by 
theorem sg_130 {L d : Nat} {xs : Nat → Int32} (I : Nat → Nat → Int32) (J : Nat → Nat → Int64) (tg : Option Nat) (a1 : Int32) {r : Option Value × SS} (h : (∃ (v3 : Int32) (I4 : Nat → Nat → Int32), Runs (GW L xs) d 164 (0, [.int a1, .int (-1), .int ((I 18 0) - 1)], [], (zS I J tg)) ((some (.int v3)), (zS I4 J tg)) ∧ (if v3 = 0 then (r = (some (.int 0), (zS I4 J tg))) else (r = (some (.int 1), (zS (up2 I4 18 1 a1) J tg)))))) : Runs (GW L xs) (d + 1) 130 (0, [.ref 0, .int a1], [], (zS I J tg)) r := by
  refine Runs.sN 7 (c' := (11, [.ref 0, .int a1], [.int ((I 18 0) - 1), .int (-1), .int a1], (zS I J tg))) rfl ?_
  obtain ⟨v3, I4, c5, h⟩ := h
  refine Runs.cl (cm := 164) (as := [.int a1, .int (-1), .int ((I 18 0) - 1)]) (rest := []) (r1 := ((some (.int v3)), (zS I4 J tg))) rfl (Nat.le_of_ble_eq_true rfl) c5 ?_
  refine Runs.as (c' := (14, [.ref 0, .int a1], [.int v3], (zS I4 J tg))) rfl ?_
  by_cases c6 : v3 = 0
  · rw [if_pos c6] at h
    refine Runs.brT (P := v3 = 0) (a := 17) (b := 19) (L := [.ref 0, .int a1]) (S := []) (z := (zS I4 J tg)) rfl c6 ?_
    refine Runs.sN 1 (c' := (18, [.ref 0, .int a1], [.int 0], (zS I4 J tg))) rfl ?_
    subst h
    exact Runs.rt rfl
  · rw [if_neg c6] at h
    refine Runs.brF (P := v3 = 0) (a := 17) (b := 19) (L := [.ref 0, .int a1]) (S := []) (z := (zS I4 J tg)) rfl c6 ?_
    refine Runs.sN 5 (c' := (28, [.ref 0, .int a1], [.int 1], (zS (up2 I4 18 1 a1) J tg))) rfl ?_
    subst h
    exact Runs.rt rfl
-- X11_taken 
theorem sg_131 {L d : Nat} {xs : Nat → Int32} (I : Nat → Nat → Int32) (J : Nat → Nat → Int64) (tg : Option Nat) (a1 : Int32) (a2 : Int32) (a3 : Int32) {r : Option Value × SS} (h : (∃ (v8 : Int32) (I9 : Nat → Nat → Int32), Runs (GW L xs) d 163 (0, [.ref 0, .int a1, .int a2, .int a3], [], (zS I J tg)) ((some (.int v8)), (zS I9 J tg)) ∧ (if v8 = 0 then (r = (some (.int (-1)), (zS I9 J tg))) else (∃ (I10 : Nat → Nat → Int32), Runs (GW L xs) d 92 (0, [.ref 75, .int a1, .int a3, vU], [], (zS I9 J tg)) (none, (zS I10 J tg)) ∧ ¬ (a2 < 0 ∨ 6 ≤ (a2).toNatClampNeg) ∧ ∃ (v11 : Int32) (I12 : Nat → Nat → Int32), Runs (GW L xs) d 100 (0, [.ref 75, .int (I10 9 ((a2).toNatClampNeg))], [], (zS I10 J tg)) ((some (.int v11)), (zS I12 J tg)) ∧ ∃ (v13 : Int32) (I14 : Nat → Nat → Int32), Runs (GW L xs) d 168 (0, [.int v11], [], (zS I12 J tg)) ((some (.int v13)), (zS I14 J tg)) ∧ r = (some (.int v13), (zS I14 J tg)))))) : Runs (GW L xs) (d + 1) 131 (0, [.ref 0, .int a1, .int a2, .int a3], [], (zS I J tg)) r := by
  refine Runs.sN 4 (c' := (4, [.ref 0, .int a1, .int a2, .int a3], [.int a3, .int a2, .int a1, .ref 0], (zS I J tg))) rfl ?_
  obtain ⟨v8, I9, c15, h⟩ := h
  refine Runs.cl (cm := 163) (as := [.ref 0, .int a1, .int a2, .int a3]) (rest := []) (r1 := ((some (.int v8)), (zS I9 J tg))) rfl (Nat.le_of_ble_eq_true rfl) c15 ?_
  refine Runs.as (c' := (7, [.ref 0, .int a1, .int a2, .int a3], [.int v8], (zS I9 J tg))) rfl ?_
  by_cases c16 : v8 = 0
  · rw [if_pos c16] at h
    refine Runs.brT (P := v8 = 0) (a := 10) (b := 12) (L := [.ref 0, .int a1, .int a2, .int a3]) (S := []) (z := (zS I9 J tg)) rfl c16 ?_
    refine Runs.sN 1 (c' := (11, [.ref 0, .int a1, .int a2, .int a3], [.int (-1)], (zS I9 J tg))) rfl ?_
    subst h
    exact Runs.rt rfl
  · rw [if_neg c16] at h
    refine Runs.brF (P := v8 = 0) (a := 10) (b := 12) (L := [.ref 0, .int a1, .int a2, .int a3]) (S := []) (z := (zS I9 J tg)) rfl c16 ?_
    refine Runs.sN 4 (c' := (18, [.ref 0, .int a1, .int a2, .int a3], [.int a3, .int a1, .ref 75], (zS I9 J tg))) rfl ?_
    obtain ⟨I10, c17, h⟩ := h
    refine Runs.cl (cm := 92) (as := [.ref 75, .int a1, .int a3]) (rest := []) (r1 := (none, (zS I10 J tg))) rfl (Nat.le_of_ble_eq_true rfl) c17 ?_
    refine Runs.as (c' := (21, [.ref 0, .int a1, .int a2, .int a3], [], (zS I10 J tg))) rfl ?_
    refine Runs.sN 6 (c' := (33, [.ref 0, .int a1, .int a2, .int a3], [.int a2, .ref 9, .ref 75], (zS I10 J tg))) rfl ?_
    obtain ⟨c18, h⟩ := h
    refine Runs.to (c' := (34, [.ref 0, .int a1, .int a2, .int a3], [.int (I10 9 ((a2).toNatClampNeg)), .ref 75], (zS I10 J tg))) (Runs.ild rfl (show (9 : Nat) < 114 by decide) rfl c18) ?_
    obtain ⟨v11, I12, c19, h⟩ := h
    refine Runs.cl (cm := 100) (as := [.ref 75, .int (I10 9 ((a2).toNatClampNeg))]) (rest := []) (r1 := ((some (.int v11)), (zS I12 J tg))) rfl (Nat.le_of_ble_eq_true rfl) c19 ?_
    refine Runs.as (c' := (37, [.ref 0, .int a1, .int a2, .int a3], [.int v11], (zS I12 J tg))) rfl ?_
    obtain ⟨v13, I14, c20, h⟩ := h
    refine Runs.cl (cm := 168) (as := [.int v11]) (rest := []) (r1 := ((some (.int v13)), (zS I14 J tg))) rfl (Nat.le_of_ble_eq_true rfl) c20 ?_
    refine Runs.as (c' := (40, [.ref 0, .int a1, .int a2, .int a3], [.int v13], (zS I14 J tg))) rfl ?_
    subst h
    exact Runs.rt rfl
-- X11_says 
theorem sg_132 {L d : Nat} {xs : Nat → Int32} (I : Nat → Nat → Int32) (J : Nat → Nat → Int64) (tg : Option Nat) (a1 : Int32) (a2 : Int32) {r : Option Value × SS} (h : (∃ (v8 : Int32) (I9 : Nat → Nat → Int32), Runs (GW L xs) d 44 (0, [.ref 1, .int a1], [], (zS I J tg)) ((some (.int v8)), (zS I9 J tg)) ∧ (if v8 = 0 then (r = (some (.int (-1)), (zS I9 J tg))) else (∃ (v10 : Int32) (I11 : Nat → Nat → Int32), Runs (GW L xs) d 164 (0, [.int a2, .int 0, .int 1], [], (zS I9 J tg)) ((some (.int v10)), (zS I11 J tg)) ∧ (if v10 = 0 then (r = (some (.int (-1)), (zS I11 J tg))) else (∃ (I12 : Nat → Nat → Int32), Runs (GW L xs) d 93 (0, [.ref 75, .int a1, .int 0], [], (zS I11 J tg)) (none, (zS I12 J tg)) ∧ (if a2 = 0 then ((if (I12 75 10) = 0 then (r = (some (.int 0), (zS I12 J tg))) else (r = (some (.int 1), (zS I12 J tg))))) else (∃ (v13 : Int32) (I14 : Nat → Nat → Int32), Runs (GW L xs) d 99 (0, [.ref 75], [], (zS I12 J tg)) ((some (.int v13)), (zS I14 J tg)) ∧ (if v13 = 0 then (r = (some (.int 0), (zS I14 J tg))) else (r = (some (.int 1), (zS I14 J tg)))))))))))) : Runs (GW L xs) (d + 1) 132 (0, [.ref 0, .int a1, .int a2], [], (zS I J tg)) r := by
  refine Runs.sN 3 (c' := (5, [.ref 0, .int a1, .int a2], [.int a1, .ref 1], (zS I J tg))) rfl ?_
  obtain ⟨v8, I9, c15, h⟩ := h
  refine Runs.cl (cm := 44) (as := [.ref 1, .int a1]) (rest := []) (r1 := ((some (.int v8)), (zS I9 J tg))) rfl (Nat.le_of_ble_eq_true rfl) c15 ?_
  refine Runs.as (c' := (8, [.ref 0, .int a1, .int a2], [.int v8], (zS I9 J tg))) rfl ?_
  by_cases c16 : v8 = 0
  · rw [if_pos c16] at h
    refine Runs.brT (P := v8 = 0) (a := 20) (b := 11) (L := [.ref 0, .int a1, .int a2]) (S := []) (z := (zS I9 J tg)) rfl c16 ?_
    refine Runs.sN 1 (c' := (21, [.ref 0, .int a1, .int a2], [.int (-1)], (zS I9 J tg))) rfl ?_
    subst h
    exact Runs.rt rfl
  · rw [if_neg c16] at h
    refine Runs.brF (P := v8 = 0) (a := 20) (b := 11) (L := [.ref 0, .int a1, .int a2]) (S := []) (z := (zS I9 J tg)) rfl c16 ?_
    refine Runs.sN 3 (c' := (14, [.ref 0, .int a1, .int a2], [.int 1, .int 0, .int a2], (zS I9 J tg))) rfl ?_
    obtain ⟨v10, I11, c17, h⟩ := h
    refine Runs.cl (cm := 164) (as := [.int a2, .int 0, .int 1]) (rest := []) (r1 := ((some (.int v10)), (zS I11 J tg))) rfl (Nat.le_of_ble_eq_true rfl) c17 ?_
    refine Runs.as (c' := (17, [.ref 0, .int a1, .int a2], [.int v10], (zS I11 J tg))) rfl ?_
    by_cases c18 : v10 = 0
    · rw [if_pos c18] at h
      refine Runs.brT (P := v10 = 0) (a := 20) (b := 22) (L := [.ref 0, .int a1, .int a2]) (S := []) (z := (zS I11 J tg)) rfl c18 ?_
      refine Runs.sN 1 (c' := (21, [.ref 0, .int a1, .int a2], [.int (-1)], (zS I11 J tg))) rfl ?_
      subst h
      exact Runs.rt rfl
    · rw [if_neg c18] at h
      refine Runs.brF (P := v10 = 0) (a := 20) (b := 22) (L := [.ref 0, .int a1, .int a2]) (S := []) (z := (zS I11 J tg)) rfl c18 ?_
      refine Runs.sN 4 (c' := (28, [.ref 0, .int a1, .int a2], [.int 0, .int a1, .ref 75], (zS I11 J tg))) rfl ?_
      obtain ⟨I12, c19, h⟩ := h
      refine Runs.cl (cm := 93) (as := [.ref 75, .int a1, .int 0]) (rest := []) (r1 := (none, (zS I12 J tg))) rfl (Nat.le_of_ble_eq_true rfl) c19 ?_
      refine Runs.as (c' := (31, [.ref 0, .int a1, .int a2], [], (zS I12 J tg))) rfl ?_
      refine Runs.sN 1 (c' := (32, [.ref 0, .int a1, .int a2], [.int a2], (zS I12 J tg))) rfl ?_
      by_cases c20 : a2 = 0
      · rw [if_pos c20] at h
        refine Runs.brT (P := a2 = 0) (a := 35) (b := 48) (L := [.ref 0, .int a1, .int a2]) (S := []) (z := (zS I12 J tg)) rfl c20 ?_
        refine Runs.sN 3 (c' := (42, [.ref 0, .int a1, .int a2], [.int (I12 75 10)], (zS I12 J tg))) rfl ?_
        by_cases c21 : (I12 75 10) = 0
        · rw [if_pos c21] at h
          refine Runs.brT (P := (I12 75 10) = 0) (a := 62) (b := 45) (L := [.ref 0, .int a1, .int a2]) (S := []) (z := (zS I12 J tg)) rfl c21 ?_
          refine Runs.sN 1 (c' := (63, [.ref 0, .int a1, .int a2], [.int 0], (zS I12 J tg))) rfl ?_
          subst h
          exact Runs.rt rfl
        · rw [if_neg c21] at h
          refine Runs.brF (P := (I12 75 10) = 0) (a := 62) (b := 45) (L := [.ref 0, .int a1, .int a2]) (S := []) (z := (zS I12 J tg)) rfl c21 ?_
          refine Runs.sN 3 (c' := (63, [.ref 0, .int a1, .int a2], [.int 1], (zS I12 J tg))) rfl ?_
          subst h
          exact Runs.rt rfl
      · rw [if_neg c20] at h
        refine Runs.brF (P := a2 = 0) (a := 35) (b := 48) (L := [.ref 0, .int a1, .int a2]) (S := []) (z := (zS I12 J tg)) rfl c20 ?_
        refine Runs.sN 2 (c' := (52, [.ref 0, .int a1, .int a2], [.ref 75], (zS I12 J tg))) rfl ?_
        obtain ⟨v13, I14, c22, h⟩ := h
        refine Runs.cl (cm := 99) (as := [.ref 75]) (rest := []) (r1 := ((some (.int v13)), (zS I14 J tg))) rfl (Nat.le_of_ble_eq_true rfl) c22 ?_
        refine Runs.as (c' := (55, [.ref 0, .int a1, .int a2], [.int v13], (zS I14 J tg))) rfl ?_
        by_cases c23 : v13 = 0
        · rw [if_pos c23] at h
          refine Runs.brT (P := v13 = 0) (a := 62) (b := 58) (L := [.ref 0, .int a1, .int a2]) (S := []) (z := (zS I14 J tg)) rfl c23 ?_
          refine Runs.sN 1 (c' := (63, [.ref 0, .int a1, .int a2], [.int 0], (zS I14 J tg))) rfl ?_
          subst h
          exact Runs.rt rfl
        · rw [if_neg c23] at h
          refine Runs.brF (P := v13 = 0) (a := 62) (b := 58) (L := [.ref 0, .int a1, .int a2]) (S := []) (z := (zS I14 J tg)) rfl c23 ?_
          refine Runs.sN 2 (c' := (63, [.ref 0, .int a1, .int a2], [.int 1], (zS I14 J tg))) rfl ?_
          subst h
          exact Runs.rt rfl
-- X11_right 
theorem sg_133 {L d : Nat} {xs : Nat → Int32} (I : Nat → Nat → Int32) (J : Nat → Nat → Int64) (tg : Option Nat) (a1 : Int32) (a2 : Int32) (a3 : Int32) {r : Option Value × SS} (h : (∃ (v8 : Int32) (I9 : Nat → Nat → Int32), Runs (GW L xs) d 163 (0, [.ref 0, .int a1, .int a2, .int a3], [], (zS I J tg)) ((some (.int v8)), (zS I9 J tg)) ∧ (if v8 = 0 then (r = (some (.int (-1)), (zS I9 J tg))) else (∃ (I10 : Nat → Nat → Int32), Runs (GW L xs) d 94 (0, [.ref 75, .int a1, .int a3], [], (zS I9 J tg)) (none, (zS I10 J tg)) ∧ ¬ (a2 < 0 ∨ 6 ≤ (a2).toNatClampNeg) ∧ ∃ (v11 : Int32) (I12 : Nat → Nat → Int32), Runs (GW L xs) d 100 (0, [.ref 75, .int (I10 9 ((a2).toNatClampNeg))], [], (zS I10 J tg)) ((some (.int v11)), (zS I12 J tg)) ∧ ∃ (v13 : Int32) (I14 : Nat → Nat → Int32), Runs (GW L xs) d 103 (0, [.ref 75, .int a2, .int v11], [], (zS I12 J tg)) ((some (.int v13)), (zS I14 J tg)) ∧ (if v13 = 0 then (r = (some (.int 0), (zS I14 J tg))) else (r = (some (.int 1), (zS I14 J tg)))))))) : Runs (GW L xs) (d + 1) 133 (0, [.ref 0, .int a1, .int a2, .int a3], [], (zS I J tg)) r := by
  refine Runs.sN 4 (c' := (4, [.ref 0, .int a1, .int a2, .int a3], [.int a3, .int a2, .int a1, .ref 0], (zS I J tg))) rfl ?_
  obtain ⟨v8, I9, c15, h⟩ := h
  refine Runs.cl (cm := 163) (as := [.ref 0, .int a1, .int a2, .int a3]) (rest := []) (r1 := ((some (.int v8)), (zS I9 J tg))) rfl (Nat.le_of_ble_eq_true rfl) c15 ?_
  refine Runs.as (c' := (7, [.ref 0, .int a1, .int a2, .int a3], [.int v8], (zS I9 J tg))) rfl ?_
  by_cases c16 : v8 = 0
  · rw [if_pos c16] at h
    refine Runs.brT (P := v8 = 0) (a := 10) (b := 12) (L := [.ref 0, .int a1, .int a2, .int a3]) (S := []) (z := (zS I9 J tg)) rfl c16 ?_
    refine Runs.sN 1 (c' := (11, [.ref 0, .int a1, .int a2, .int a3], [.int (-1)], (zS I9 J tg))) rfl ?_
    subst h
    exact Runs.rt rfl
  · rw [if_neg c16] at h
    refine Runs.brF (P := v8 = 0) (a := 10) (b := 12) (L := [.ref 0, .int a1, .int a2, .int a3]) (S := []) (z := (zS I9 J tg)) rfl c16 ?_
    refine Runs.sN 4 (c' := (18, [.ref 0, .int a1, .int a2, .int a3], [.int a3, .int a1, .ref 75], (zS I9 J tg))) rfl ?_
    obtain ⟨I10, c17, h⟩ := h
    refine Runs.cl (cm := 94) (as := [.ref 75, .int a1, .int a3]) (rest := []) (r1 := (none, (zS I10 J tg))) rfl (Nat.le_of_ble_eq_true rfl) c17 ?_
    refine Runs.as (c' := (21, [.ref 0, .int a1, .int a2, .int a3], [], (zS I10 J tg))) rfl ?_
    refine Runs.sN 9 (c' := (38, [.ref 0, .int a1, .int a2, .int a3], [.int a2, .ref 9, .ref 75, .int a2, .ref 75], (zS I10 J tg))) rfl ?_
    obtain ⟨c18, h⟩ := h
    refine Runs.to (c' := (39, [.ref 0, .int a1, .int a2, .int a3], [.int (I10 9 ((a2).toNatClampNeg)), .ref 75, .int a2, .ref 75], (zS I10 J tg))) (Runs.ild rfl (show (9 : Nat) < 114 by decide) rfl c18) ?_
    obtain ⟨v11, I12, c19, h⟩ := h
    refine Runs.cl (cm := 100) (as := [.ref 75, .int (I10 9 ((a2).toNatClampNeg))]) (rest := [.int a2, .ref 75]) (r1 := ((some (.int v11)), (zS I12 J tg))) rfl (Nat.le_of_ble_eq_true rfl) c19 ?_
    refine Runs.as (c' := (42, [.ref 0, .int a1, .int a2, .int a3], [.int v11, .int a2, .ref 75], (zS I12 J tg))) rfl ?_
    obtain ⟨v13, I14, c20, h⟩ := h
    refine Runs.cl (cm := 103) (as := [.ref 75, .int a2, .int v11]) (rest := []) (r1 := ((some (.int v13)), (zS I14 J tg))) rfl (Nat.le_of_ble_eq_true rfl) c20 ?_
    refine Runs.as (c' := (45, [.ref 0, .int a1, .int a2, .int a3], [.int v13], (zS I14 J tg))) rfl ?_
    by_cases c21 : v13 = 0
    · rw [if_pos c21] at h
      refine Runs.brT (P := v13 = 0) (a := 52) (b := 48) (L := [.ref 0, .int a1, .int a2, .int a3]) (S := []) (z := (zS I14 J tg)) rfl c21 ?_
      refine Runs.sN 1 (c' := (53, [.ref 0, .int a1, .int a2, .int a3], [.int 0], (zS I14 J tg))) rfl ?_
      subst h
      exact Runs.rt rfl
    · rw [if_neg c21] at h
      refine Runs.brF (P := v13 = 0) (a := 52) (b := 48) (L := [.ref 0, .int a1, .int a2, .int a3]) (S := []) (z := (zS I14 J tg)) rfl c21 ?_
      refine Runs.sN 2 (c' := (53, [.ref 0, .int a1, .int a2, .int a3], [.int 1], (zS I14 J tg))) rfl ?_
      subst h
      exact Runs.rt rfl
-- X11_harm 
theorem sg_134 {L d : Nat} {xs : Nat → Int32} (I : Nat → Nat → Int32) (J : Nat → Nat → Int64) (tg : Option Nat) (a1 : Int32) (a2 : Int32) (a3 : Int32) {r : Option Value × SS} (h : (∃ (v8 : Int32) (I9 : Nat → Nat → Int32), Runs (GW L xs) d 163 (0, [.ref 0, .int a1, .int a2, .int a3], [], (zS I J tg)) ((some (.int v8)), (zS I9 J tg)) ∧ (if v8 = 0 then (r = (some (.int (-1)), (zS I9 J tg))) else (∃ (I10 : Nat → Nat → Int32), Runs (GW L xs) d 94 (0, [.ref 75, .int a1, .int a3], [], (zS I9 J tg)) (none, (zS I10 J tg)) ∧ ¬ (a2 < 0 ∨ 6 ≤ (a2).toNatClampNeg) ∧ ∃ (v11 : Int32) (I12 : Nat → Nat → Int32), Runs (GW L xs) d 100 (0, [.ref 75, .int (I10 9 ((a2).toNatClampNeg))], [], (zS I10 J tg)) ((some (.int v11)), (zS I12 J tg)) ∧ ∃ (v13 : Int32) (I14 : Nat → Nat → Int32), Runs (GW L xs) d 104 (0, [.ref 75, .int a2, .int v11, vU], [], (zS I12 J tg)) ((some (.int v13)), (zS I14 J tg)) ∧ r = (some (.int v13), (zS I14 J tg)))))) : Runs (GW L xs) (d + 1) 134 (0, [.ref 0, .int a1, .int a2, .int a3], [], (zS I J tg)) r := by
  refine Runs.sN 4 (c' := (4, [.ref 0, .int a1, .int a2, .int a3], [.int a3, .int a2, .int a1, .ref 0], (zS I J tg))) rfl ?_
  obtain ⟨v8, I9, c15, h⟩ := h
  refine Runs.cl (cm := 163) (as := [.ref 0, .int a1, .int a2, .int a3]) (rest := []) (r1 := ((some (.int v8)), (zS I9 J tg))) rfl (Nat.le_of_ble_eq_true rfl) c15 ?_
  refine Runs.as (c' := (7, [.ref 0, .int a1, .int a2, .int a3], [.int v8], (zS I9 J tg))) rfl ?_
  by_cases c16 : v8 = 0
  · rw [if_pos c16] at h
    refine Runs.brT (P := v8 = 0) (a := 10) (b := 12) (L := [.ref 0, .int a1, .int a2, .int a3]) (S := []) (z := (zS I9 J tg)) rfl c16 ?_
    refine Runs.sN 1 (c' := (11, [.ref 0, .int a1, .int a2, .int a3], [.int (-1)], (zS I9 J tg))) rfl ?_
    subst h
    exact Runs.rt rfl
  · rw [if_neg c16] at h
    refine Runs.brF (P := v8 = 0) (a := 10) (b := 12) (L := [.ref 0, .int a1, .int a2, .int a3]) (S := []) (z := (zS I9 J tg)) rfl c16 ?_
    refine Runs.sN 4 (c' := (18, [.ref 0, .int a1, .int a2, .int a3], [.int a3, .int a1, .ref 75], (zS I9 J tg))) rfl ?_
    obtain ⟨I10, c17, h⟩ := h
    refine Runs.cl (cm := 94) (as := [.ref 75, .int a1, .int a3]) (rest := []) (r1 := (none, (zS I10 J tg))) rfl (Nat.le_of_ble_eq_true rfl) c17 ?_
    refine Runs.as (c' := (21, [.ref 0, .int a1, .int a2, .int a3], [], (zS I10 J tg))) rfl ?_
    refine Runs.sN 9 (c' := (38, [.ref 0, .int a1, .int a2, .int a3], [.int a2, .ref 9, .ref 75, .int a2, .ref 75], (zS I10 J tg))) rfl ?_
    obtain ⟨c18, h⟩ := h
    refine Runs.to (c' := (39, [.ref 0, .int a1, .int a2, .int a3], [.int (I10 9 ((a2).toNatClampNeg)), .ref 75, .int a2, .ref 75], (zS I10 J tg))) (Runs.ild rfl (show (9 : Nat) < 114 by decide) rfl c18) ?_
    obtain ⟨v11, I12, c19, h⟩ := h
    refine Runs.cl (cm := 100) (as := [.ref 75, .int (I10 9 ((a2).toNatClampNeg))]) (rest := [.int a2, .ref 75]) (r1 := ((some (.int v11)), (zS I12 J tg))) rfl (Nat.le_of_ble_eq_true rfl) c19 ?_
    refine Runs.as (c' := (42, [.ref 0, .int a1, .int a2, .int a3], [.int v11, .int a2, .ref 75], (zS I12 J tg))) rfl ?_
    obtain ⟨v13, I14, c20, h⟩ := h
    refine Runs.cl (cm := 104) (as := [.ref 75, .int a2, .int v11]) (rest := []) (r1 := ((some (.int v13)), (zS I14 J tg))) rfl (Nat.le_of_ble_eq_true rfl) c20 ?_
    refine Runs.as (c' := (45, [.ref 0, .int a1, .int a2, .int a3], [.int v13], (zS I14 J tg))) rfl ?_
    subst h
    exact Runs.rt rfl
-- X11_odds 
theorem sg_135 {L d : Nat} {xs : Nat → Int32} (I : Nat → Nat → Int32) (J : Nat → Nat → Int64) (tg : Option Nat) (a1 : Int32) (a2 : Int32) (a3 : Int32) {r : Option Value × SS} (h : (∃ (v14 : Int32) (I15 : Nat → Nat → Int32), Runs (GW L xs) d 44 (0, [.ref 1, .int a1], [], (zS I J tg)) ((some (.int v14)), (zS I15 J tg)) ∧ (if v14 = 0 then (r = (some (.int (-1)), (zS I15 J tg))) else (∃ (v16 : Int32) (I17 : Nat → Nat → Int32), Runs (GW L xs) d 166 (0, [.int a2], [], (zS I15 J tg)) ((some (.int v16)), (zS I17 J tg)) ∧ (if v16 = 0 then (r = (some (.int (-1)), (zS I17 J tg))) else (∃ (v18 : Int32) (I19 : Nat → Nat → Int32), Runs (GW L xs) d 164 (0, [.int a3, .int 0, .int 2], [], (zS I17 J tg)) ((some (.int v18)), (zS I19 J tg)) ∧ (if v18 = 0 then (r = (some (.int (-1)), (zS I19 J tg))) else ((if a3 = 2 then (∃ (v20 : Int32) (I21 : Nat → Nat → Int32), Runs (GW L xs) d 109 (0, [.ref 7, vU, vU], [], (zS I19 J tg)) ((some (.int v20)), (zS I21 J tg)) ∧ r = (some (.int v20), (zS I21 J tg))) else (∃ (I22 : Nat → Nat → Int32), Runs (GW L xs) d 94 (0, [.ref 75, .int a1, .int a2], [], (zS I19 J tg)) (none, (zS I22 J tg)) ∧ (if a3 = 0 then (∃ (v23 : Int32) (I24 : Nat → Nat → Int32), Runs (GW L xs) d 105 (0, [.ref 75, vU, vU], [], (zS I22 J tg)) ((some (.int v23)), (zS I24 J tg)) ∧ r = (some (.int v23), (zS I24 J tg))) else (∃ (v25 : Int32) (I26 : Nat → Nat → Int32), Runs (GW L xs) d 106 (0, [.ref 75, vU, vU], [], (zS I22 J tg)) ((some (.int v25)), (zS I26 J tg)) ∧ r = (some (.int v25), (zS I26 J tg)))))))))))))) : Runs (GW L xs) (d + 1) 135 (0, [.ref 0, .int a1, .int a2, .int a3], [], (zS I J tg)) r := by
  refine Runs.sN 3 (c' := (5, [.ref 0, .int a1, .int a2, .int a3], [.int a1, .ref 1], (zS I J tg))) rfl ?_
  obtain ⟨v14, I15, c27, h⟩ := h
  refine Runs.cl (cm := 44) (as := [.ref 1, .int a1]) (rest := []) (r1 := ((some (.int v14)), (zS I15 J tg))) rfl (Nat.le_of_ble_eq_true rfl) c27 ?_
  refine Runs.as (c' := (8, [.ref 0, .int a1, .int a2, .int a3], [.int v14], (zS I15 J tg))) rfl ?_
  by_cases c28 : v14 = 0
  · rw [if_pos c28] at h
    refine Runs.brT (P := v14 = 0) (a := 27) (b := 11) (L := [.ref 0, .int a1, .int a2, .int a3]) (S := []) (z := (zS I15 J tg)) rfl c28 ?_
    refine Runs.sN 1 (c' := (28, [.ref 0, .int a1, .int a2, .int a3], [.int (-1)], (zS I15 J tg))) rfl ?_
    subst h
    exact Runs.rt rfl
  · rw [if_neg c28] at h
    refine Runs.brF (P := v14 = 0) (a := 27) (b := 11) (L := [.ref 0, .int a1, .int a2, .int a3]) (S := []) (z := (zS I15 J tg)) rfl c28 ?_
    refine Runs.sN 1 (c' := (12, [.ref 0, .int a1, .int a2, .int a3], [.int a2], (zS I15 J tg))) rfl ?_
    obtain ⟨v16, I17, c29, h⟩ := h
    refine Runs.cl (cm := 166) (as := [.int a2]) (rest := []) (r1 := ((some (.int v16)), (zS I17 J tg))) rfl (Nat.le_of_ble_eq_true rfl) c29 ?_
    refine Runs.as (c' := (15, [.ref 0, .int a1, .int a2, .int a3], [.int v16], (zS I17 J tg))) rfl ?_
    by_cases c30 : v16 = 0
    · rw [if_pos c30] at h
      refine Runs.brT (P := v16 = 0) (a := 27) (b := 18) (L := [.ref 0, .int a1, .int a2, .int a3]) (S := []) (z := (zS I17 J tg)) rfl c30 ?_
      refine Runs.sN 1 (c' := (28, [.ref 0, .int a1, .int a2, .int a3], [.int (-1)], (zS I17 J tg))) rfl ?_
      subst h
      exact Runs.rt rfl
    · rw [if_neg c30] at h
      refine Runs.brF (P := v16 = 0) (a := 27) (b := 18) (L := [.ref 0, .int a1, .int a2, .int a3]) (S := []) (z := (zS I17 J tg)) rfl c30 ?_
      refine Runs.sN 3 (c' := (21, [.ref 0, .int a1, .int a2, .int a3], [.int 2, .int 0, .int a3], (zS I17 J tg))) rfl ?_
      obtain ⟨v18, I19, c31, h⟩ := h
      refine Runs.cl (cm := 164) (as := [.int a3, .int 0, .int 2]) (rest := []) (r1 := ((some (.int v18)), (zS I19 J tg))) rfl (Nat.le_of_ble_eq_true rfl) c31 ?_
      refine Runs.as (c' := (24, [.ref 0, .int a1, .int a2, .int a3], [.int v18], (zS I19 J tg))) rfl ?_
      by_cases c32 : v18 = 0
      · rw [if_pos c32] at h
        refine Runs.brT (P := v18 = 0) (a := 27) (b := 29) (L := [.ref 0, .int a1, .int a2, .int a3]) (S := []) (z := (zS I19 J tg)) rfl c32 ?_
        refine Runs.sN 1 (c' := (28, [.ref 0, .int a1, .int a2, .int a3], [.int (-1)], (zS I19 J tg))) rfl ?_
        subst h
        exact Runs.rt rfl
      · rw [if_neg c32] at h
        refine Runs.brF (P := v18 = 0) (a := 27) (b := 29) (L := [.ref 0, .int a1, .int a2, .int a3]) (S := []) (z := (zS I19 J tg)) rfl c32 ?_
        refine Runs.sN 2 (c' := (31, [.ref 0, .int a1, .int a2, .int a3], [.int 2, .int a3], (zS I19 J tg))) rfl ?_
        by_cases c33 : a3 = 2
        · rw [if_pos c33] at h
          refine Runs.brT (P := a3 = 2) (a := 34) (b := 42) (L := [.ref 0, .int a1, .int a2, .int a3]) (S := []) (z := (zS I19 J tg)) rfl c33 ?_
          refine Runs.sN 2 (c' := (38, [.ref 0, .int a1, .int a2, .int a3], [.ref 7], (zS I19 J tg))) rfl ?_
          obtain ⟨v20, I21, c34, h⟩ := h
          refine Runs.cl (cm := 109) (as := [.ref 7]) (rest := []) (r1 := ((some (.int v20)), (zS I21 J tg))) rfl (Nat.le_of_ble_eq_true rfl) c34 ?_
          refine Runs.as (c' := (41, [.ref 0, .int a1, .int a2, .int a3], [.int v20], (zS I21 J tg))) rfl ?_
          subst h
          exact Runs.rt rfl
        · rw [if_neg c33] at h
          refine Runs.brF (P := a3 = 2) (a := 34) (b := 42) (L := [.ref 0, .int a1, .int a2, .int a3]) (S := []) (z := (zS I19 J tg)) rfl c33 ?_
          refine Runs.sN 4 (c' := (48, [.ref 0, .int a1, .int a2, .int a3], [.int a2, .int a1, .ref 75], (zS I19 J tg))) rfl ?_
          obtain ⟨I22, c35, h⟩ := h
          refine Runs.cl (cm := 94) (as := [.ref 75, .int a1, .int a2]) (rest := []) (r1 := (none, (zS I22 J tg))) rfl (Nat.le_of_ble_eq_true rfl) c35 ?_
          refine Runs.as (c' := (51, [.ref 0, .int a1, .int a2, .int a3], [], (zS I22 J tg))) rfl ?_
          refine Runs.sN 1 (c' := (52, [.ref 0, .int a1, .int a2, .int a3], [.int a3], (zS I22 J tg))) rfl ?_
          by_cases c36 : a3 = 0
          · rw [if_pos c36] at h
            refine Runs.brT (P := a3 = 0) (a := 55) (b := 65) (L := [.ref 0, .int a1, .int a2, .int a3]) (S := []) (z := (zS I22 J tg)) rfl c36 ?_
            refine Runs.sN 2 (c' := (59, [.ref 0, .int a1, .int a2, .int a3], [.ref 75], (zS I22 J tg))) rfl ?_
            obtain ⟨v23, I24, c37, h⟩ := h
            refine Runs.cl (cm := 105) (as := [.ref 75]) (rest := []) (r1 := ((some (.int v23)), (zS I24 J tg))) rfl (Nat.le_of_ble_eq_true rfl) c37 ?_
            refine Runs.as (c' := (62, [.ref 0, .int a1, .int a2, .int a3], [.int v23], (zS I24 J tg))) rfl ?_
            refine Runs.sN 1 (c' := (72, [.ref 0, .int a1, .int a2, .int a3], [.int v23], (zS I24 J tg))) rfl ?_
            subst h
            exact Runs.rt rfl
          · rw [if_neg c36] at h
            refine Runs.brF (P := a3 = 0) (a := 55) (b := 65) (L := [.ref 0, .int a1, .int a2, .int a3]) (S := []) (z := (zS I22 J tg)) rfl c36 ?_
            refine Runs.sN 2 (c' := (69, [.ref 0, .int a1, .int a2, .int a3], [.ref 75], (zS I22 J tg))) rfl ?_
            obtain ⟨v25, I26, c38, h⟩ := h
            refine Runs.cl (cm := 106) (as := [.ref 75]) (rest := []) (r1 := ((some (.int v25)), (zS I26 J tg))) rfl (Nat.le_of_ble_eq_true rfl) c38 ?_
            refine Runs.as (c' := (72, [.ref 0, .int a1, .int a2, .int a3], [.int v25], (zS I26 J tg))) rfl ?_
            subst h
            exact Runs.rt rfl
