-- X11_answer 
theorem sg_154 {L d : Nat} {xs : Nat → Int32} (I : Nat → Nat → Int32) (J : Nat → Nat → Int64) (tg : Option Nat) (a1 : Int32) (a2 : Int32) (a3 : Int32) (a4 : Int32) {r : Option Value × SS} (h : (∃ (v9 : Int32) (I10 : Nat → Nat → Int32), Runs (GW L xs) d 165 (0, [.int a1], [], (zS I J tg)) ((some (.int v9)), (zS I10 J tg)) ∧ (if v9 = 0 then (r = (some (.int (-1)), (zS I10 J tg))) else (∃ (v11 : Int32) (I12 : Nat → Nat → Int32), Runs (GW L xs) d 166 (0, [.int a2], [], (zS I10 J tg)) ((some (.int v11)), (zS I12 J tg)) ∧ (if v11 = 0 then (r = (some (.int (-1)), (zS I12 J tg))) else (∃ (v13 : Int32) (I14 : Nat → Nat → Int32), Runs (GW L xs) d 44 (0, [.ref 1, .int a3], [], (zS I12 J tg)) ((some (.int v13)), (zS I14 J tg)) ∧ (if v13 = 0 then (r = (some (.int (-1)), (zS I14 J tg))) else ((if a4 = (-1) then ((if (I14 7 5) < 60 then (¬ ((I14 7 5) < 0 ∨ 60 ≤ (I14 7 5).toNatClampNeg) ∧ ¬ ((I14 7 5) < 0 ∨ 60 ≤ (I14 7 5).toNatClampNeg) ∧ ¬ ((I14 7 5) < 0 ∨ 60 ≤ (I14 7 5).toNatClampNeg) ∧ (if a4 = (-1) then (¬ ((I14 7 5) < 0 ∨ 60 ≤ (I14 7 5).toNatClampNeg) ∧ ¬ ((I14 7 5) < 0 ∨ 60 ≤ (I14 7 5).toNatClampNeg) ∧ r = (some (.int ((I14 7 5) + 1)), (zS (up2 (up2 (up2 (up2 (up2 (up2 I14 13 ((I14 7 5).toNatClampNeg) a1) 14 ((I14 7 5).toNatClampNeg) a2) 15 ((I14 7 5).toNatClampNeg) a3) 16 ((I14 7 5).toNatClampNeg) (-1)) 17 ((I14 7 5).toNatClampNeg) (I14 7 4)) 7 5 ((I14 7 5) + 1)) J tg))) else (¬ ((I14 7 5) < 0 ∨ 60 ≤ (I14 7 5).toNatClampNeg) ∧ ¬ ((I14 7 5) < 0 ∨ 60 ≤ (I14 7 5).toNatClampNeg) ∧ r = (some (.int ((I14 7 5) + 1)), (zS (up2 (up2 (up2 (up2 (up2 (up2 I14 13 ((I14 7 5).toNatClampNeg) a1) 14 ((I14 7 5).toNatClampNeg) a2) 15 ((I14 7 5).toNatClampNeg) a3) 16 ((I14 7 5).toNatClampNeg) (a4 - 12)) 17 ((I14 7 5).toNatClampNeg) (I14 7 4)) 7 5 ((I14 7 5) + 1)) J tg))))) else (r = (some (.int (-1)), (zS I14 J tg))))) else (∃ (v15 : Int32) (I16 : Nat → Nat → Int32), Runs (GW L xs) d 45 (0, [.ref 1, .int a4], [], (zS I14 J tg)) ((some (.int v15)), (zS I16 J tg)) ∧ (if v15 = 0 then (r = (some (.int (-1)), (zS I16 J tg))) else ((if (I16 7 5) < 60 then (¬ ((I16 7 5) < 0 ∨ 60 ≤ (I16 7 5).toNatClampNeg) ∧ ¬ ((I16 7 5) < 0 ∨ 60 ≤ (I16 7 5).toNatClampNeg) ∧ ¬ ((I16 7 5) < 0 ∨ 60 ≤ (I16 7 5).toNatClampNeg) ∧ (if a4 = (-1) then (¬ ((I16 7 5) < 0 ∨ 60 ≤ (I16 7 5).toNatClampNeg) ∧ ¬ ((I16 7 5) < 0 ∨ 60 ≤ (I16 7 5).toNatClampNeg) ∧ r = (some (.int ((I16 7 5) + 1)), (zS (up2 (up2 (up2 (up2 (up2 (up2 I16 13 ((I16 7 5).toNatClampNeg) a1) 14 ((I16 7 5).toNatClampNeg) a2) 15 ((I16 7 5).toNatClampNeg) a3) 16 ((I16 7 5).toNatClampNeg) (-1)) 17 ((I16 7 5).toNatClampNeg) (I16 7 4)) 7 5 ((I16 7 5) + 1)) J tg))) else (¬ ((I16 7 5) < 0 ∨ 60 ≤ (I16 7 5).toNatClampNeg) ∧ ¬ ((I16 7 5) < 0 ∨ 60 ≤ (I16 7 5).toNatClampNeg) ∧ r = (some (.int ((I16 7 5) + 1)), (zS (up2 (up2 (up2 (up2 (up2 (up2 I16 13 ((I16 7 5).toNatClampNeg) a1) 14 ((I16 7 5).toNatClampNeg) a2) 15 ((I16 7 5).toNatClampNeg) a3) 16 ((I16 7 5).toNatClampNeg) (a4 - 12)) 17 ((I16 7 5).toNatClampNeg) (I16 7 4)) 7 5 ((I16 7 5) + 1)) J tg))))) else (r = (some (.int (-1)), (zS I16 J tg)))))))))))))))) : Runs (GW L xs) (d + 1) 154 (0, [.ref 0, .int a1, .int a2, .int a3, .int a4, vU], [], (zS I J tg)) r := by
  refine Runs.sN 1 (c' := (1, [.ref 0, .int a1, .int a2, .int a3, .int a4, vU], [.int a1], (zS I J tg))) rfl ?_
  obtain ⟨v9, I10, c17, h⟩ := h
  refine Runs.cl (cm := 165) (as := [.int a1]) (rest := []) (r1 := ((some (.int v9)), (zS I10 J tg))) rfl (Nat.le_of_ble_eq_true rfl) c17 ?_
  refine Runs.as (c' := (4, [.ref 0, .int a1, .int a2, .int a3, .int a4, vU], [.int v9], (zS I10 J tg))) rfl ?_
  by_cases c18 : v9 = 0
  · rw [if_pos c18] at h
    refine Runs.brT (P := v9 = 0) (a := 25) (b := 7) (L := [.ref 0, .int a1, .int a2, .int a3, .int a4, vU]) (S := []) (z := (zS I10 J tg)) rfl c18 ?_
    refine Runs.sN 1 (c' := (26, [.ref 0, .int a1, .int a2, .int a3, .int a4, vU], [.int (-1)], (zS I10 J tg))) rfl ?_
    subst h
    exact Runs.rt rfl
  · rw [if_neg c18] at h
    refine Runs.brF (P := v9 = 0) (a := 25) (b := 7) (L := [.ref 0, .int a1, .int a2, .int a3, .int a4, vU]) (S := []) (z := (zS I10 J tg)) rfl c18 ?_
    refine Runs.sN 1 (c' := (8, [.ref 0, .int a1, .int a2, .int a3, .int a4, vU], [.int a2], (zS I10 J tg))) rfl ?_
    obtain ⟨v11, I12, c19, h⟩ := h
    refine Runs.cl (cm := 166) (as := [.int a2]) (rest := []) (r1 := ((some (.int v11)), (zS I12 J tg))) rfl (Nat.le_of_ble_eq_true rfl) c19 ?_
    refine Runs.as (c' := (11, [.ref 0, .int a1, .int a2, .int a3, .int a4, vU], [.int v11], (zS I12 J tg))) rfl ?_
    by_cases c20 : v11 = 0
    · rw [if_pos c20] at h
      refine Runs.brT (P := v11 = 0) (a := 25) (b := 14) (L := [.ref 0, .int a1, .int a2, .int a3, .int a4, vU]) (S := []) (z := (zS I12 J tg)) rfl c20 ?_
      refine Runs.sN 1 (c' := (26, [.ref 0, .int a1, .int a2, .int a3, .int a4, vU], [.int (-1)], (zS I12 J tg))) rfl ?_
      subst h
      exact Runs.rt rfl
    · rw [if_neg c20] at h
      refine Runs.brF (P := v11 = 0) (a := 25) (b := 14) (L := [.ref 0, .int a1, .int a2, .int a3, .int a4, vU]) (S := []) (z := (zS I12 J tg)) rfl c20 ?_
      refine Runs.sN 3 (c' := (19, [.ref 0, .int a1, .int a2, .int a3, .int a4, vU], [.int a3, .ref 1], (zS I12 J tg))) rfl ?_
      obtain ⟨v13, I14, c21, h⟩ := h
      refine Runs.cl (cm := 44) (as := [.ref 1, .int a3]) (rest := []) (r1 := ((some (.int v13)), (zS I14 J tg))) rfl (Nat.le_of_ble_eq_true rfl) c21 ?_
      refine Runs.as (c' := (22, [.ref 0, .int a1, .int a2, .int a3, .int a4, vU], [.int v13], (zS I14 J tg))) rfl ?_
      by_cases c22 : v13 = 0
      · rw [if_pos c22] at h
        refine Runs.brT (P := v13 = 0) (a := 25) (b := 27) (L := [.ref 0, .int a1, .int a2, .int a3, .int a4, vU]) (S := []) (z := (zS I14 J tg)) rfl c22 ?_
        refine Runs.sN 1 (c' := (26, [.ref 0, .int a1, .int a2, .int a3, .int a4, vU], [.int (-1)], (zS I14 J tg))) rfl ?_
        subst h
        exact Runs.rt rfl
      · rw [if_neg c22] at h
        refine Runs.brF (P := v13 = 0) (a := 25) (b := 27) (L := [.ref 0, .int a1, .int a2, .int a3, .int a4, vU]) (S := []) (z := (zS I14 J tg)) rfl c22 ?_
        refine Runs.sN 2 (c' := (30, [.ref 0, .int a1, .int a2, .int a3, .int a4, vU], [.int (-1), .int a4], (zS I14 J tg))) rfl ?_
        by_cases c23 : a4 = (-1)
        · rw [if_pos c23] at h
          refine Runs.brT (P := a4 = (-1)) (a := 45) (b := 33) (L := [.ref 0, .int a1, .int a2, .int a3, .int a4, vU]) (S := []) (z := (zS I14 J tg)) rfl c23 ?_
          refine Runs.sN 4 (c' := (54, [.ref 0, .int a1, .int a2, .int a3, .int a4, vU], [.int 60, .int (I14 7 5)], (zS I14 J tg))) rfl ?_
          by_cases c24 : (I14 7 5) < 60
          · rw [if_pos c24] at h
            refine Runs.brT (P := (I14 7 5) < 60) (a := 59) (b := 57) (L := [.ref 0, .int a1, .int a2, .int a3, .int a4, vU]) (S := []) (z := (zS I14 J tg)) rfl c24 ?_
            refine Runs.sN 9 (c' := (78, [.ref 0, .int a1, .int a2, .int a3, .int a4, .int (I14 7 5)], [.int a1, .int (I14 7 5), .ref 13], (zS I14 J tg))) rfl ?_
            obtain ⟨c25, h⟩ := h
            refine Runs.to (c' := (79, [.ref 0, .int a1, .int a2, .int a3, .int a4, .int (I14 7 5)], [], (zS (up2 I14 13 ((I14 7 5).toNatClampNeg) a1) J tg))) (Runs.ist rfl (show (13 : Nat) < 114 by decide) rfl c25) ?_
            refine Runs.sN 5 (c' := (89, [.ref 0, .int a1, .int a2, .int a3, .int a4, .int (I14 7 5)], [.int a2, .int (I14 7 5), .ref 14], (zS (up2 I14 13 ((I14 7 5).toNatClampNeg) a1) J tg))) rfl ?_
            obtain ⟨c26, h⟩ := h
            refine Runs.to (c' := (90, [.ref 0, .int a1, .int a2, .int a3, .int a4, .int (I14 7 5)], [], (zS (up2 (up2 I14 13 ((I14 7 5).toNatClampNeg) a1) 14 ((I14 7 5).toNatClampNeg) a2) J tg))) (Runs.ist rfl (show (14 : Nat) < 114 by decide) rfl c26) ?_
            refine Runs.sN 5 (c' := (100, [.ref 0, .int a1, .int a2, .int a3, .int a4, .int (I14 7 5)], [.int a3, .int (I14 7 5), .ref 15], (zS (up2 (up2 I14 13 ((I14 7 5).toNatClampNeg) a1) 14 ((I14 7 5).toNatClampNeg) a2) J tg))) rfl ?_
            obtain ⟨c27, h⟩ := h
            refine Runs.to (c' := (101, [.ref 0, .int a1, .int a2, .int a3, .int a4, .int (I14 7 5)], [], (zS (up2 (up2 (up2 I14 13 ((I14 7 5).toNatClampNeg) a1) 14 ((I14 7 5).toNatClampNeg) a2) 15 ((I14 7 5).toNatClampNeg) a3) J tg))) (Runs.ist rfl (show (15 : Nat) < 114 by decide) rfl c27) ?_
            refine Runs.sN 6 (c' := (113, [.ref 0, .int a1, .int a2, .int a3, .int a4, .int (I14 7 5)], [.int (-1), .int a4, .int (I14 7 5), .ref 16], (zS (up2 (up2 (up2 I14 13 ((I14 7 5).toNatClampNeg) a1) 14 ((I14 7 5).toNatClampNeg) a2) 15 ((I14 7 5).toNatClampNeg) a3) J tg))) rfl ?_
            by_cases c28 : a4 = (-1)
            · rw [if_pos c28] at h
              refine Runs.brT (P := a4 = (-1)) (a := 116) (b := 120) (L := [.ref 0, .int a1, .int a2, .int a3, .int a4, .int (I14 7 5)]) (S := [.int (I14 7 5), .ref 16]) (z := (zS (up2 (up2 (up2 I14 13 ((I14 7 5).toNatClampNeg) a1) 14 ((I14 7 5).toNatClampNeg) a2) 15 ((I14 7 5).toNatClampNeg) a3) J tg)) rfl c28 ?_
              refine Runs.sN 2 (c' := (125, [.ref 0, .int a1, .int a2, .int a3, .int a4, .int (I14 7 5)], [.int (-1), .int (I14 7 5), .ref 16], (zS (up2 (up2 (up2 I14 13 ((I14 7 5).toNatClampNeg) a1) 14 ((I14 7 5).toNatClampNeg) a2) 15 ((I14 7 5).toNatClampNeg) a3) J tg))) rfl ?_
              obtain ⟨c29, h⟩ := h
              refine Runs.to (c' := (126, [.ref 0, .int a1, .int a2, .int a3, .int a4, .int (I14 7 5)], [], (zS (up2 (up2 (up2 (up2 I14 13 ((I14 7 5).toNatClampNeg) a1) 14 ((I14 7 5).toNatClampNeg) a2) 15 ((I14 7 5).toNatClampNeg) a3) 16 ((I14 7 5).toNatClampNeg) (-1)) J tg))) (Runs.ist rfl (show (16 : Nat) < 114 by decide) rfl c29) ?_
              refine Runs.sN 7 (c' := (142, [.ref 0, .int a1, .int a2, .int a3, .int a4, .int (I14 7 5)], [.int (I14 7 4), .int (I14 7 5), .ref 17], (zS (up2 (up2 (up2 (up2 I14 13 ((I14 7 5).toNatClampNeg) a1) 14 ((I14 7 5).toNatClampNeg) a2) 15 ((I14 7 5).toNatClampNeg) a3) 16 ((I14 7 5).toNatClampNeg) (-1)) J tg))) rfl ?_
              obtain ⟨c30, h⟩ := h
              refine Runs.to (c' := (143, [.ref 0, .int a1, .int a2, .int a3, .int a4, .int (I14 7 5)], [], (zS (up2 (up2 (up2 (up2 (up2 I14 13 ((I14 7 5).toNatClampNeg) a1) 14 ((I14 7 5).toNatClampNeg) a2) 15 ((I14 7 5).toNatClampNeg) a3) 16 ((I14 7 5).toNatClampNeg) (-1)) 17 ((I14 7 5).toNatClampNeg) (I14 7 4)) J tg))) (Runs.ist rfl (show (17 : Nat) < 114 by decide) rfl c30) ?_
              refine Runs.sN 10 (c' := (163, [.ref 0, .int a1, .int a2, .int a3, .int a4, .int (I14 7 5)], [.int ((I14 7 5) + 1)], (zS (up2 (up2 (up2 (up2 (up2 (up2 I14 13 ((I14 7 5).toNatClampNeg) a1) 14 ((I14 7 5).toNatClampNeg) a2) 15 ((I14 7 5).toNatClampNeg) a3) 16 ((I14 7 5).toNatClampNeg) (-1)) 17 ((I14 7 5).toNatClampNeg) (I14 7 4)) 7 5 ((I14 7 5) + 1)) J tg))) rfl ?_
              subst h
              exact Runs.rt rfl
            · rw [if_neg c28] at h
              refine Runs.brF (P := a4 = (-1)) (a := 116) (b := 120) (L := [.ref 0, .int a1, .int a2, .int a3, .int a4, .int (I14 7 5)]) (S := [.int (I14 7 5), .ref 16]) (z := (zS (up2 (up2 (up2 I14 13 ((I14 7 5).toNatClampNeg) a1) 14 ((I14 7 5).toNatClampNeg) a2) 15 ((I14 7 5).toNatClampNeg) a3) J tg)) rfl c28 ?_
              refine Runs.sN 3 (c' := (125, [.ref 0, .int a1, .int a2, .int a3, .int a4, .int (I14 7 5)], [.int (a4 - 12), .int (I14 7 5), .ref 16], (zS (up2 (up2 (up2 I14 13 ((I14 7 5).toNatClampNeg) a1) 14 ((I14 7 5).toNatClampNeg) a2) 15 ((I14 7 5).toNatClampNeg) a3) J tg))) rfl ?_
              obtain ⟨c31, h⟩ := h
              refine Runs.to (c' := (126, [.ref 0, .int a1, .int a2, .int a3, .int a4, .int (I14 7 5)], [], (zS (up2 (up2 (up2 (up2 I14 13 ((I14 7 5).toNatClampNeg) a1) 14 ((I14 7 5).toNatClampNeg) a2) 15 ((I14 7 5).toNatClampNeg) a3) 16 ((I14 7 5).toNatClampNeg) (a4 - 12)) J tg))) (Runs.ist rfl (show (16 : Nat) < 114 by decide) rfl c31) ?_
              refine Runs.sN 7 (c' := (142, [.ref 0, .int a1, .int a2, .int a3, .int a4, .int (I14 7 5)], [.int (I14 7 4), .int (I14 7 5), .ref 17], (zS (up2 (up2 (up2 (up2 I14 13 ((I14 7 5).toNatClampNeg) a1) 14 ((I14 7 5).toNatClampNeg) a2) 15 ((I14 7 5).toNatClampNeg) a3) 16 ((I14 7 5).toNatClampNeg) (a4 - 12)) J tg))) rfl ?_
              obtain ⟨c32, h⟩ := h
              refine Runs.to (c' := (143, [.ref 0, .int a1, .int a2, .int a3, .int a4, .int (I14 7 5)], [], (zS (up2 (up2 (up2 (up2 (up2 I14 13 ((I14 7 5).toNatClampNeg) a1) 14 ((I14 7 5).toNatClampNeg) a2) 15 ((I14 7 5).toNatClampNeg) a3) 16 ((I14 7 5).toNatClampNeg) (a4 - 12)) 17 ((I14 7 5).toNatClampNeg) (I14 7 4)) J tg))) (Runs.ist rfl (show (17 : Nat) < 114 by decide) rfl c32) ?_
              refine Runs.sN 10 (c' := (163, [.ref 0, .int a1, .int a2, .int a3, .int a4, .int (I14 7 5)], [.int ((I14 7 5) + 1)], (zS (up2 (up2 (up2 (up2 (up2 (up2 I14 13 ((I14 7 5).toNatClampNeg) a1) 14 ((I14 7 5).toNatClampNeg) a2) 15 ((I14 7 5).toNatClampNeg) a3) 16 ((I14 7 5).toNatClampNeg) (a4 - 12)) 17 ((I14 7 5).toNatClampNeg) (I14 7 4)) 7 5 ((I14 7 5) + 1)) J tg))) rfl ?_
              subst h
              exact Runs.rt rfl
          · rw [if_neg c24] at h
            refine Runs.brF (P := (I14 7 5) < 60) (a := 59) (b := 57) (L := [.ref 0, .int a1, .int a2, .int a3, .int a4, vU]) (S := []) (z := (zS I14 J tg)) rfl c24 ?_
            refine Runs.sN 1 (c' := (58, [.ref 0, .int a1, .int a2, .int a3, .int a4, vU], [.int (-1)], (zS I14 J tg))) rfl ?_
            subst h
            exact Runs.rt rfl
        · rw [if_neg c23] at h
          refine Runs.brF (P := a4 = (-1)) (a := 45) (b := 33) (L := [.ref 0, .int a1, .int a2, .int a3, .int a4, vU]) (S := []) (z := (zS I14 J tg)) rfl c23 ?_
          refine Runs.sN 3 (c' := (39, [.ref 0, .int a1, .int a2, .int a3, .int a4, vU], [.int a4, .ref 1], (zS I14 J tg))) rfl ?_
          obtain ⟨v15, I16, c33, h⟩ := h
          refine Runs.cl (cm := 45) (as := [.ref 1, .int a4]) (rest := []) (r1 := ((some (.int v15)), (zS I16 J tg))) rfl (Nat.le_of_ble_eq_true rfl) c33 ?_
          refine Runs.as (c' := (42, [.ref 0, .int a1, .int a2, .int a3, .int a4, vU], [.int v15], (zS I16 J tg))) rfl ?_
          by_cases c34 : v15 = 0
          · rw [if_pos c34] at h
            refine Runs.brT (P := v15 = 0) (a := 57) (b := 45) (L := [.ref 0, .int a1, .int a2, .int a3, .int a4, vU]) (S := []) (z := (zS I16 J tg)) rfl c34 ?_
            refine Runs.sN 1 (c' := (58, [.ref 0, .int a1, .int a2, .int a3, .int a4, vU], [.int (-1)], (zS I16 J tg))) rfl ?_
            subst h
            exact Runs.rt rfl
          · rw [if_neg c34] at h
            refine Runs.brF (P := v15 = 0) (a := 57) (b := 45) (L := [.ref 0, .int a1, .int a2, .int a3, .int a4, vU]) (S := []) (z := (zS I16 J tg)) rfl c34 ?_
            refine Runs.sN 4 (c' := (54, [.ref 0, .int a1, .int a2, .int a3, .int a4, vU], [.int 60, .int (I16 7 5)], (zS I16 J tg))) rfl ?_
            by_cases c35 : (I16 7 5) < 60
            · rw [if_pos c35] at h
              refine Runs.brT (P := (I16 7 5) < 60) (a := 59) (b := 57) (L := [.ref 0, .int a1, .int a2, .int a3, .int a4, vU]) (S := []) (z := (zS I16 J tg)) rfl c35 ?_
              refine Runs.sN 9 (c' := (78, [.ref 0, .int a1, .int a2, .int a3, .int a4, .int (I16 7 5)], [.int a1, .int (I16 7 5), .ref 13], (zS I16 J tg))) rfl ?_
              obtain ⟨c36, h⟩ := h
              refine Runs.to (c' := (79, [.ref 0, .int a1, .int a2, .int a3, .int a4, .int (I16 7 5)], [], (zS (up2 I16 13 ((I16 7 5).toNatClampNeg) a1) J tg))) (Runs.ist rfl (show (13 : Nat) < 114 by decide) rfl c36) ?_
              refine Runs.sN 5 (c' := (89, [.ref 0, .int a1, .int a2, .int a3, .int a4, .int (I16 7 5)], [.int a2, .int (I16 7 5), .ref 14], (zS (up2 I16 13 ((I16 7 5).toNatClampNeg) a1) J tg))) rfl ?_
              obtain ⟨c37, h⟩ := h
              refine Runs.to (c' := (90, [.ref 0, .int a1, .int a2, .int a3, .int a4, .int (I16 7 5)], [], (zS (up2 (up2 I16 13 ((I16 7 5).toNatClampNeg) a1) 14 ((I16 7 5).toNatClampNeg) a2) J tg))) (Runs.ist rfl (show (14 : Nat) < 114 by decide) rfl c37) ?_
              refine Runs.sN 5 (c' := (100, [.ref 0, .int a1, .int a2, .int a3, .int a4, .int (I16 7 5)], [.int a3, .int (I16 7 5), .ref 15], (zS (up2 (up2 I16 13 ((I16 7 5).toNatClampNeg) a1) 14 ((I16 7 5).toNatClampNeg) a2) J tg))) rfl ?_
              obtain ⟨c38, h⟩ := h
              refine Runs.to (c' := (101, [.ref 0, .int a1, .int a2, .int a3, .int a4, .int (I16 7 5)], [], (zS (up2 (up2 (up2 I16 13 ((I16 7 5).toNatClampNeg) a1) 14 ((I16 7 5).toNatClampNeg) a2) 15 ((I16 7 5).toNatClampNeg) a3) J tg))) (Runs.ist rfl (show (15 : Nat) < 114 by decide) rfl c38) ?_
              refine Runs.sN 6 (c' := (113, [.ref 0, .int a1, .int a2, .int a3, .int a4, .int (I16 7 5)], [.int (-1), .int a4, .int (I16 7 5), .ref 16], (zS (up2 (up2 (up2 I16 13 ((I16 7 5).toNatClampNeg) a1) 14 ((I16 7 5).toNatClampNeg) a2) 15 ((I16 7 5).toNatClampNeg) a3) J tg))) rfl ?_
              by_cases c39 : a4 = (-1)
              · rw [if_pos c39] at h
                refine Runs.brT (P := a4 = (-1)) (a := 116) (b := 120) (L := [.ref 0, .int a1, .int a2, .int a3, .int a4, .int (I16 7 5)]) (S := [.int (I16 7 5), .ref 16]) (z := (zS (up2 (up2 (up2 I16 13 ((I16 7 5).toNatClampNeg) a1) 14 ((I16 7 5).toNatClampNeg) a2) 15 ((I16 7 5).toNatClampNeg) a3) J tg)) rfl c39 ?_
                refine Runs.sN 2 (c' := (125, [.ref 0, .int a1, .int a2, .int a3, .int a4, .int (I16 7 5)], [.int (-1), .int (I16 7 5), .ref 16], (zS (up2 (up2 (up2 I16 13 ((I16 7 5).toNatClampNeg) a1) 14 ((I16 7 5).toNatClampNeg) a2) 15 ((I16 7 5).toNatClampNeg) a3) J tg))) rfl ?_
                obtain ⟨c40, h⟩ := h
                refine Runs.to (c' := (126, [.ref 0, .int a1, .int a2, .int a3, .int a4, .int (I16 7 5)], [], (zS (up2 (up2 (up2 (up2 I16 13 ((I16 7 5).toNatClampNeg) a1) 14 ((I16 7 5).toNatClampNeg) a2) 15 ((I16 7 5).toNatClampNeg) a3) 16 ((I16 7 5).toNatClampNeg) (-1)) J tg))) (Runs.ist rfl (show (16 : Nat) < 114 by decide) rfl c40) ?_
                refine Runs.sN 7 (c' := (142, [.ref 0, .int a1, .int a2, .int a3, .int a4, .int (I16 7 5)], [.int (I16 7 4), .int (I16 7 5), .ref 17], (zS (up2 (up2 (up2 (up2 I16 13 ((I16 7 5).toNatClampNeg) a1) 14 ((I16 7 5).toNatClampNeg) a2) 15 ((I16 7 5).toNatClampNeg) a3) 16 ((I16 7 5).toNatClampNeg) (-1)) J tg))) rfl ?_
                obtain ⟨c41, h⟩ := h
                refine Runs.to (c' := (143, [.ref 0, .int a1, .int a2, .int a3, .int a4, .int (I16 7 5)], [], (zS (up2 (up2 (up2 (up2 (up2 I16 13 ((I16 7 5).toNatClampNeg) a1) 14 ((I16 7 5).toNatClampNeg) a2) 15 ((I16 7 5).toNatClampNeg) a3) 16 ((I16 7 5).toNatClampNeg) (-1)) 17 ((I16 7 5).toNatClampNeg) (I16 7 4)) J tg))) (Runs.ist rfl (show (17 : Nat) < 114 by decide) rfl c41) ?_
                refine Runs.sN 10 (c' := (163, [.ref 0, .int a1, .int a2, .int a3, .int a4, .int (I16 7 5)], [.int ((I16 7 5) + 1)], (zS (up2 (up2 (up2 (up2 (up2 (up2 I16 13 ((I16 7 5).toNatClampNeg) a1) 14 ((I16 7 5).toNatClampNeg) a2) 15 ((I16 7 5).toNatClampNeg) a3) 16 ((I16 7 5).toNatClampNeg) (-1)) 17 ((I16 7 5).toNatClampNeg) (I16 7 4)) 7 5 ((I16 7 5) + 1)) J tg))) rfl ?_
                subst h
                exact Runs.rt rfl
              · rw [if_neg c39] at h
                refine Runs.brF (P := a4 = (-1)) (a := 116) (b := 120) (L := [.ref 0, .int a1, .int a2, .int a3, .int a4, .int (I16 7 5)]) (S := [.int (I16 7 5), .ref 16]) (z := (zS (up2 (up2 (up2 I16 13 ((I16 7 5).toNatClampNeg) a1) 14 ((I16 7 5).toNatClampNeg) a2) 15 ((I16 7 5).toNatClampNeg) a3) J tg)) rfl c39 ?_
                refine Runs.sN 3 (c' := (125, [.ref 0, .int a1, .int a2, .int a3, .int a4, .int (I16 7 5)], [.int (a4 - 12), .int (I16 7 5), .ref 16], (zS (up2 (up2 (up2 I16 13 ((I16 7 5).toNatClampNeg) a1) 14 ((I16 7 5).toNatClampNeg) a2) 15 ((I16 7 5).toNatClampNeg) a3) J tg))) rfl ?_
                obtain ⟨c42, h⟩ := h
                refine Runs.to (c' := (126, [.ref 0, .int a1, .int a2, .int a3, .int a4, .int (I16 7 5)], [], (zS (up2 (up2 (up2 (up2 I16 13 ((I16 7 5).toNatClampNeg) a1) 14 ((I16 7 5).toNatClampNeg) a2) 15 ((I16 7 5).toNatClampNeg) a3) 16 ((I16 7 5).toNatClampNeg) (a4 - 12)) J tg))) (Runs.ist rfl (show (16 : Nat) < 114 by decide) rfl c42) ?_
                refine Runs.sN 7 (c' := (142, [.ref 0, .int a1, .int a2, .int a3, .int a4, .int (I16 7 5)], [.int (I16 7 4), .int (I16 7 5), .ref 17], (zS (up2 (up2 (up2 (up2 I16 13 ((I16 7 5).toNatClampNeg) a1) 14 ((I16 7 5).toNatClampNeg) a2) 15 ((I16 7 5).toNatClampNeg) a3) 16 ((I16 7 5).toNatClampNeg) (a4 - 12)) J tg))) rfl ?_
                obtain ⟨c43, h⟩ := h
                refine Runs.to (c' := (143, [.ref 0, .int a1, .int a2, .int a3, .int a4, .int (I16 7 5)], [], (zS (up2 (up2 (up2 (up2 (up2 I16 13 ((I16 7 5).toNatClampNeg) a1) 14 ((I16 7 5).toNatClampNeg) a2) 15 ((I16 7 5).toNatClampNeg) a3) 16 ((I16 7 5).toNatClampNeg) (a4 - 12)) 17 ((I16 7 5).toNatClampNeg) (I16 7 4)) J tg))) (Runs.ist rfl (show (17 : Nat) < 114 by decide) rfl c43) ?_
                refine Runs.sN 10 (c' := (163, [.ref 0, .int a1, .int a2, .int a3, .int a4, .int (I16 7 5)], [.int ((I16 7 5) + 1)], (zS (up2 (up2 (up2 (up2 (up2 (up2 I16 13 ((I16 7 5).toNatClampNeg) a1) 14 ((I16 7 5).toNatClampNeg) a2) 15 ((I16 7 5).toNatClampNeg) a3) 16 ((I16 7 5).toNatClampNeg) (a4 - 12)) 17 ((I16 7 5).toNatClampNeg) (I16 7 4)) 7 5 ((I16 7 5) + 1)) J tg))) rfl ?_
                subst h
                exact Runs.rt rfl
            · rw [if_neg c35] at h
              refine Runs.brF (P := (I16 7 5) < 60) (a := 59) (b := 57) (L := [.ref 0, .int a1, .int a2, .int a3, .int a4, vU]) (S := []) (z := (zS I16 J tg)) rfl c35 ?_
              refine Runs.sN 1 (c' := (58, [.ref 0, .int a1, .int a2, .int a3, .int a4, vU], [.int (-1)], (zS I16 J tg))) rfl ?_
              subst h
              exact Runs.rt rfl
-- X11_minds 
theorem sg_155 {L d : Nat} {xs : Nat → Int32} (I : Nat → Nat → Int32) (J : Nat → Nat → Int64) (tg : Option Nat) (a1 : Int32) (a2 : Int32) (a3 : Int32) {r : Option Value × SS} (h : (∃ (v14 : Int32) (I15 : Nat → Nat → Int32), Runs (GW L xs) d 165 (0, [.int a1], [], (zS I J tg)) ((some (.int v14)), (zS I15 J tg)) ∧ (if v14 = 0 then (r = (some (.int (-1)), (zS I15 J tg))) else (∃ (v16 : Int32) (I17 : Nat → Nat → Int32), Runs (GW L xs) d 164 (0, [.int a2, .int 0, .int 999], [], (zS I15 J tg)) ((some (.int v16)), (zS I17 J tg)) ∧ (if v16 = 0 then (r = (some (.int (-1)), (zS I17 J tg))) else (∃ (I18 : Nat → Nat → Int32), Runs (GW L xs) d 51 (0, [.ref 92, .int a1, .int a2, vU], [], (zS I17 J tg)) (none, (zS I18 J tg)) ∧ (if a3 = (-1) then (∃ (v19 : Int32) (I20 : Nat → Nat → Int32), Runs (GW L xs) d 54 (0, [.ref 92], [], (zS I18 J tg)) ((some (.int v19)), (zS I20 J tg)) ∧ r = (some (.int v19), (zS I20 J tg))) else (∃ (v21 : Int32) (I22 : Nat → Nat → Int32), Runs (GW L xs) d 54 (0, [.ref 92], [], (zS I18 J tg)) ((some (.int v21)), (zS I22 J tg)) ∧ ∃ (v23 : Int32) (I24 : Nat → Nat → Int32), Runs (GW L xs) d 164 (0, [.int a3, .int 0, .int (v21 - 1)], [], (zS I22 J tg)) ((some (.int v23)), (zS I24 J tg)) ∧ (if v23 = 0 then (r = (some (.int (-1)), (zS I24 J tg))) else (∃ (v25 : Int32) (I26 : Nat → Nat → Int32), Runs (GW L xs) d 55 (0, [.ref 92, .int a3, vU, vU, vU, vU], [], (zS I24 J tg)) ((some (.int v25)), (zS I26 J tg)) ∧ r = (some (.int v25), (zS I26 J tg)))))))))))) : Runs (GW L xs) (d + 1) 155 (0, [.ref 0, .int a1, .int a2, .int a3], [], (zS I J tg)) r := by
  refine Runs.sN 1 (c' := (1, [.ref 0, .int a1, .int a2, .int a3], [.int a1], (zS I J tg))) rfl ?_
  obtain ⟨v14, I15, c27, h⟩ := h
  refine Runs.cl (cm := 165) (as := [.int a1]) (rest := []) (r1 := ((some (.int v14)), (zS I15 J tg))) rfl (Nat.le_of_ble_eq_true rfl) c27 ?_
  refine Runs.as (c' := (4, [.ref 0, .int a1, .int a2, .int a3], [.int v14], (zS I15 J tg))) rfl ?_
  by_cases c28 : v14 = 0
  · rw [if_pos c28] at h
    refine Runs.brT (P := v14 = 0) (a := 18) (b := 7) (L := [.ref 0, .int a1, .int a2, .int a3]) (S := []) (z := (zS I15 J tg)) rfl c28 ?_
    refine Runs.sN 1 (c' := (19, [.ref 0, .int a1, .int a2, .int a3], [.int (-1)], (zS I15 J tg))) rfl ?_
    subst h
    exact Runs.rt rfl
  · rw [if_neg c28] at h
    refine Runs.brF (P := v14 = 0) (a := 18) (b := 7) (L := [.ref 0, .int a1, .int a2, .int a3]) (S := []) (z := (zS I15 J tg)) rfl c28 ?_
    refine Runs.sN 3 (c' := (12, [.ref 0, .int a1, .int a2, .int a3], [.int 999, .int 0, .int a2], (zS I15 J tg))) rfl ?_
    obtain ⟨v16, I17, c29, h⟩ := h
    refine Runs.cl (cm := 164) (as := [.int a2, .int 0, .int 999]) (rest := []) (r1 := ((some (.int v16)), (zS I17 J tg))) rfl (Nat.le_of_ble_eq_true rfl) c29 ?_
    refine Runs.as (c' := (15, [.ref 0, .int a1, .int a2, .int a3], [.int v16], (zS I17 J tg))) rfl ?_
    by_cases c30 : v16 = 0
    · rw [if_pos c30] at h
      refine Runs.brT (P := v16 = 0) (a := 18) (b := 20) (L := [.ref 0, .int a1, .int a2, .int a3]) (S := []) (z := (zS I17 J tg)) rfl c30 ?_
      refine Runs.sN 1 (c' := (19, [.ref 0, .int a1, .int a2, .int a3], [.int (-1)], (zS I17 J tg))) rfl ?_
      subst h
      exact Runs.rt rfl
    · rw [if_neg c30] at h
      refine Runs.brF (P := v16 = 0) (a := 18) (b := 20) (L := [.ref 0, .int a1, .int a2, .int a3]) (S := []) (z := (zS I17 J tg)) rfl c30 ?_
      refine Runs.sN 4 (c' := (26, [.ref 0, .int a1, .int a2, .int a3], [.int a2, .int a1, .ref 92], (zS I17 J tg))) rfl ?_
      obtain ⟨I18, c31, h⟩ := h
      refine Runs.cl (cm := 51) (as := [.ref 92, .int a1, .int a2]) (rest := []) (r1 := (none, (zS I18 J tg))) rfl (Nat.le_of_ble_eq_true rfl) c31 ?_
      refine Runs.as (c' := (29, [.ref 0, .int a1, .int a2, .int a3], [], (zS I18 J tg))) rfl ?_
      refine Runs.sN 2 (c' := (31, [.ref 0, .int a1, .int a2, .int a3], [.int (-1), .int a3], (zS I18 J tg))) rfl ?_
      by_cases c32 : a3 = (-1)
      · rw [if_pos c32] at h
        refine Runs.brT (P := a3 = (-1)) (a := 34) (b := 42) (L := [.ref 0, .int a1, .int a2, .int a3]) (S := []) (z := (zS I18 J tg)) rfl c32 ?_
        refine Runs.sN 2 (c' := (38, [.ref 0, .int a1, .int a2, .int a3], [.ref 92], (zS I18 J tg))) rfl ?_
        obtain ⟨v19, I20, c33, h⟩ := h
        refine Runs.cl (cm := 54) (as := [.ref 92]) (rest := []) (r1 := ((some (.int v19)), (zS I20 J tg))) rfl (Nat.le_of_ble_eq_true rfl) c33 ?_
        refine Runs.as (c' := (41, [.ref 0, .int a1, .int a2, .int a3], [.int v19], (zS I20 J tg))) rfl ?_
        subst h
        exact Runs.rt rfl
      · rw [if_neg c32] at h
        refine Runs.brF (P := a3 = (-1)) (a := 34) (b := 42) (L := [.ref 0, .int a1, .int a2, .int a3]) (S := []) (z := (zS I18 J tg)) rfl c32 ?_
        refine Runs.sN 4 (c' := (48, [.ref 0, .int a1, .int a2, .int a3], [.ref 92, .int 0, .int a3], (zS I18 J tg))) rfl ?_
        obtain ⟨v21, I22, c34, h⟩ := h
        refine Runs.cl (cm := 54) (as := [.ref 92]) (rest := [.int 0, .int a3]) (r1 := ((some (.int v21)), (zS I22 J tg))) rfl (Nat.le_of_ble_eq_true rfl) c34 ?_
        refine Runs.as (c' := (51, [.ref 0, .int a1, .int a2, .int a3], [.int v21, .int 0, .int a3], (zS I22 J tg))) rfl ?_
        refine Runs.sN 2 (c' := (53, [.ref 0, .int a1, .int a2, .int a3], [.int (v21 - 1), .int 0, .int a3], (zS I22 J tg))) rfl ?_
        obtain ⟨v23, I24, c35, h⟩ := h
        refine Runs.cl (cm := 164) (as := [.int a3, .int 0, .int (v21 - 1)]) (rest := []) (r1 := ((some (.int v23)), (zS I24 J tg))) rfl (Nat.le_of_ble_eq_true rfl) c35 ?_
        refine Runs.as (c' := (56, [.ref 0, .int a1, .int a2, .int a3], [.int v23], (zS I24 J tg))) rfl ?_
        by_cases c36 : v23 = 0
        · rw [if_pos c36] at h
          refine Runs.brT (P := v23 = 0) (a := 70) (b := 59) (L := [.ref 0, .int a1, .int a2, .int a3]) (S := []) (z := (zS I24 J tg)) rfl c36 ?_
          refine Runs.sN 1 (c' := (71, [.ref 0, .int a1, .int a2, .int a3], [.int (-1)], (zS I24 J tg))) rfl ?_
          subst h
          exact Runs.rt rfl
        · rw [if_neg c36] at h
          refine Runs.brF (P := v23 = 0) (a := 70) (b := 59) (L := [.ref 0, .int a1, .int a2, .int a3]) (S := []) (z := (zS I24 J tg)) rfl c36 ?_
          refine Runs.sN 3 (c' := (64, [.ref 0, .int a1, .int a2, .int a3], [.int a3, .ref 92], (zS I24 J tg))) rfl ?_
          obtain ⟨v25, I26, c37, h⟩ := h
          refine Runs.cl (cm := 55) (as := [.ref 92, .int a3]) (rest := []) (r1 := ((some (.int v25)), (zS I26 J tg))) rfl (Nat.le_of_ble_eq_true rfl) c37 ?_
          refine Runs.as (c' := (67, [.ref 0, .int a1, .int a2, .int a3], [.int v25], (zS I26 J tg))) rfl ?_
          refine Runs.sN 1 (c' := (71, [.ref 0, .int a1, .int a2, .int a3], [.int v25], (zS I26 J tg))) rfl ?_
          subst h
          exact Runs.rt rfl
-- X11_knows 
theorem sg_156 {L d : Nat} {xs : Nat → Int32} (I : Nat → Nat → Int32) (J : Nat → Nat → Int64) (tg : Option Nat) (a1 : Int32) (a2 : Int32) (a3 : Int32) {r : Option Value × SS} (h : (∃ (v10 : Int32) (I11 : Nat → Nat → Int32), Runs (GW L xs) d 165 (0, [.int a1], [], (zS I J tg)) ((some (.int v10)), (zS I11 J tg)) ∧ (if v10 = 0 then (r = (some (.int (-1)), (zS I11 J tg))) else (∃ (v12 : Int32) (I13 : Nat → Nat → Int32), Runs (GW L xs) d 164 (0, [.int a2, .int 0, .int 999], [], (zS I11 J tg)) ((some (.int v12)), (zS I13 J tg)) ∧ (if v12 = 0 then (r = (some (.int (-1)), (zS I13 J tg))) else (∃ (v14 : Int32) (I15 : Nat → Nat → Int32), Runs (GW L xs) d 45 (0, [.ref 1, .int a3], [], (zS I13 J tg)) ((some (.int v14)), (zS I15 J tg)) ∧ (if v14 = 0 then (r = (some (.int (-1)), (zS I15 J tg))) else (∃ (I16 : Nat → Nat → Int32), Runs (GW L xs) d 51 (0, [.ref 92, .int a1, .int a2, vU], [], (zS I15 J tg)) (none, (zS I16 J tg)) ∧ ∃ (v17 : Int32) (I18 : Nat → Nat → Int32), Runs (GW L xs) d 56 (0, [.ref 92, .int (a3 - 12)], [], (zS I16 J tg)) ((some (.int v17)), (zS I18 J tg)) ∧ r = (some (.int v17), (zS I18 J tg)))))))))) : Runs (GW L xs) (d + 1) 156 (0, [.ref 0, .int a1, .int a2, .int a3], [], (zS I J tg)) r := by
  refine Runs.sN 1 (c' := (1, [.ref 0, .int a1, .int a2, .int a3], [.int a1], (zS I J tg))) rfl ?_
  obtain ⟨v10, I11, c19, h⟩ := h
  refine Runs.cl (cm := 165) (as := [.int a1]) (rest := []) (r1 := ((some (.int v10)), (zS I11 J tg))) rfl (Nat.le_of_ble_eq_true rfl) c19 ?_
  refine Runs.as (c' := (4, [.ref 0, .int a1, .int a2, .int a3], [.int v10], (zS I11 J tg))) rfl ?_
  by_cases c20 : v10 = 0
  · rw [if_pos c20] at h
    refine Runs.brT (P := v10 = 0) (a := 29) (b := 7) (L := [.ref 0, .int a1, .int a2, .int a3]) (S := []) (z := (zS I11 J tg)) rfl c20 ?_
    refine Runs.sN 1 (c' := (30, [.ref 0, .int a1, .int a2, .int a3], [.int (-1)], (zS I11 J tg))) rfl ?_
    subst h
    exact Runs.rt rfl
  · rw [if_neg c20] at h
    refine Runs.brF (P := v10 = 0) (a := 29) (b := 7) (L := [.ref 0, .int a1, .int a2, .int a3]) (S := []) (z := (zS I11 J tg)) rfl c20 ?_
    refine Runs.sN 3 (c' := (12, [.ref 0, .int a1, .int a2, .int a3], [.int 999, .int 0, .int a2], (zS I11 J tg))) rfl ?_
    obtain ⟨v12, I13, c21, h⟩ := h
    refine Runs.cl (cm := 164) (as := [.int a2, .int 0, .int 999]) (rest := []) (r1 := ((some (.int v12)), (zS I13 J tg))) rfl (Nat.le_of_ble_eq_true rfl) c21 ?_
    refine Runs.as (c' := (15, [.ref 0, .int a1, .int a2, .int a3], [.int v12], (zS I13 J tg))) rfl ?_
    by_cases c22 : v12 = 0
    · rw [if_pos c22] at h
      refine Runs.brT (P := v12 = 0) (a := 29) (b := 18) (L := [.ref 0, .int a1, .int a2, .int a3]) (S := []) (z := (zS I13 J tg)) rfl c22 ?_
      refine Runs.sN 1 (c' := (30, [.ref 0, .int a1, .int a2, .int a3], [.int (-1)], (zS I13 J tg))) rfl ?_
      subst h
      exact Runs.rt rfl
    · rw [if_neg c22] at h
      refine Runs.brF (P := v12 = 0) (a := 29) (b := 18) (L := [.ref 0, .int a1, .int a2, .int a3]) (S := []) (z := (zS I13 J tg)) rfl c22 ?_
      refine Runs.sN 3 (c' := (23, [.ref 0, .int a1, .int a2, .int a3], [.int a3, .ref 1], (zS I13 J tg))) rfl ?_
      obtain ⟨v14, I15, c23, h⟩ := h
      refine Runs.cl (cm := 45) (as := [.ref 1, .int a3]) (rest := []) (r1 := ((some (.int v14)), (zS I15 J tg))) rfl (Nat.le_of_ble_eq_true rfl) c23 ?_
      refine Runs.as (c' := (26, [.ref 0, .int a1, .int a2, .int a3], [.int v14], (zS I15 J tg))) rfl ?_
      by_cases c24 : v14 = 0
      · rw [if_pos c24] at h
        refine Runs.brT (P := v14 = 0) (a := 29) (b := 31) (L := [.ref 0, .int a1, .int a2, .int a3]) (S := []) (z := (zS I15 J tg)) rfl c24 ?_
        refine Runs.sN 1 (c' := (30, [.ref 0, .int a1, .int a2, .int a3], [.int (-1)], (zS I15 J tg))) rfl ?_
        subst h
        exact Runs.rt rfl
      · rw [if_neg c24] at h
        refine Runs.brF (P := v14 = 0) (a := 29) (b := 31) (L := [.ref 0, .int a1, .int a2, .int a3]) (S := []) (z := (zS I15 J tg)) rfl c24 ?_
        refine Runs.sN 4 (c' := (37, [.ref 0, .int a1, .int a2, .int a3], [.int a2, .int a1, .ref 92], (zS I15 J tg))) rfl ?_
        obtain ⟨I16, c25, h⟩ := h
        refine Runs.cl (cm := 51) (as := [.ref 92, .int a1, .int a2]) (rest := []) (r1 := (none, (zS I16 J tg))) rfl (Nat.le_of_ble_eq_true rfl) c25 ?_
        refine Runs.as (c' := (40, [.ref 0, .int a1, .int a2, .int a3], [], (zS I16 J tg))) rfl ?_
        refine Runs.sN 5 (c' := (48, [.ref 0, .int a1, .int a2, .int a3], [.int (a3 - 12), .ref 92], (zS I16 J tg))) rfl ?_
        obtain ⟨v17, I18, c26, h⟩ := h
        refine Runs.cl (cm := 56) (as := [.ref 92, .int (a3 - 12)]) (rest := []) (r1 := ((some (.int v17)), (zS I18 J tg))) rfl (Nat.le_of_ble_eq_true rfl) c26 ?_
        refine Runs.as (c' := (51, [.ref 0, .int a1, .int a2, .int a3], [.int v17], (zS I18 J tg))) rfl ?_
        subst h
        exact Runs.rt rfl
-- X11_parts 
theorem sg_157 {L d : Nat} {xs : Nat → Int32} (I : Nat → Nat → Int32) (J : Nat → Nat → Int64) (tg : Option Nat) (a1 : Int32) (a2 : Int32) (a3 : Int32) {r : Option Value × SS} (h : (∃ (v9 : Int32) (I10 : Nat → Nat → Int32), Runs (GW L xs) d 165 (0, [.int a1], [], (zS I J tg)) ((some (.int v9)), (zS I10 J tg)) ∧ (if v9 = 0 then (r = (some (.int (-1)), (zS I10 J tg))) else (∃ (v11 : Int32) (I12 : Nat → Nat → Int32), Runs (GW L xs) d 166 (0, [.int a2], [], (zS I10 J tg)) ((some (.int v11)), (zS I12 J tg)) ∧ (if v11 = 0 then (r = (some (.int (-1)), (zS I12 J tg))) else (∃ (v13 : Int32) (I14 : Nat → Nat → Int32), Runs (GW L xs) d 164 (0, [.int a3, .int 0, .int 1], [], (zS I12 J tg)) ((some (.int v13)), (zS I14 J tg)) ∧ (if v13 = 0 then (r = (some (.int (-1)), (zS I14 J tg))) else (∃ (I15 : Nat → Nat → Int32), Runs (GW L xs) d 51 (0, [.ref 92, .int a1, .int (I14 7 4), vU], [], (zS I14 J tg)) (none, (zS I15 J tg)) ∧ ∃ (I16 : Nat → Nat → Int32), Runs (GW L xs) d 57 (0, [.ref 92, .int a2, vU, vU], [], (zS I15 J tg)) (none, (zS I16 J tg)) ∧ (if (I16 92 6) = (-1) then (r = (some (.int (-1)), (zS I16 J tg))) else ((if a3 = 0 then (r = (some (.int (I16 92 6)), (zS I16 J tg))) else (r = (some (.int (I16 92 7)), (zS I16 J tg)))))))))))))) : Runs (GW L xs) (d + 1) 157 (0, [.ref 0, .int a1, .int a2, .int a3], [], (zS I J tg)) r := by
  refine Runs.sN 1 (c' := (1, [.ref 0, .int a1, .int a2, .int a3], [.int a1], (zS I J tg))) rfl ?_
  obtain ⟨v9, I10, c17, h⟩ := h
  refine Runs.cl (cm := 165) (as := [.int a1]) (rest := []) (r1 := ((some (.int v9)), (zS I10 J tg))) rfl (Nat.le_of_ble_eq_true rfl) c17 ?_
  refine Runs.as (c' := (4, [.ref 0, .int a1, .int a2, .int a3], [.int v9], (zS I10 J tg))) rfl ?_
  by_cases c18 : v9 = 0
  · rw [if_pos c18] at h
    refine Runs.brT (P := v9 = 0) (a := 23) (b := 7) (L := [.ref 0, .int a1, .int a2, .int a3]) (S := []) (z := (zS I10 J tg)) rfl c18 ?_
    refine Runs.sN 1 (c' := (24, [.ref 0, .int a1, .int a2, .int a3], [.int (-1)], (zS I10 J tg))) rfl ?_
    subst h
    exact Runs.rt rfl
  · rw [if_neg c18] at h
    refine Runs.brF (P := v9 = 0) (a := 23) (b := 7) (L := [.ref 0, .int a1, .int a2, .int a3]) (S := []) (z := (zS I10 J tg)) rfl c18 ?_
    refine Runs.sN 1 (c' := (8, [.ref 0, .int a1, .int a2, .int a3], [.int a2], (zS I10 J tg))) rfl ?_
    obtain ⟨v11, I12, c19, h⟩ := h
    refine Runs.cl (cm := 166) (as := [.int a2]) (rest := []) (r1 := ((some (.int v11)), (zS I12 J tg))) rfl (Nat.le_of_ble_eq_true rfl) c19 ?_
    refine Runs.as (c' := (11, [.ref 0, .int a1, .int a2, .int a3], [.int v11], (zS I12 J tg))) rfl ?_
    by_cases c20 : v11 = 0
    · rw [if_pos c20] at h
      refine Runs.brT (P := v11 = 0) (a := 23) (b := 14) (L := [.ref 0, .int a1, .int a2, .int a3]) (S := []) (z := (zS I12 J tg)) rfl c20 ?_
      refine Runs.sN 1 (c' := (24, [.ref 0, .int a1, .int a2, .int a3], [.int (-1)], (zS I12 J tg))) rfl ?_
      subst h
      exact Runs.rt rfl
    · rw [if_neg c20] at h
      refine Runs.brF (P := v11 = 0) (a := 23) (b := 14) (L := [.ref 0, .int a1, .int a2, .int a3]) (S := []) (z := (zS I12 J tg)) rfl c20 ?_
      refine Runs.sN 3 (c' := (17, [.ref 0, .int a1, .int a2, .int a3], [.int 1, .int 0, .int a3], (zS I12 J tg))) rfl ?_
      obtain ⟨v13, I14, c21, h⟩ := h
      refine Runs.cl (cm := 164) (as := [.int a3, .int 0, .int 1]) (rest := []) (r1 := ((some (.int v13)), (zS I14 J tg))) rfl (Nat.le_of_ble_eq_true rfl) c21 ?_
      refine Runs.as (c' := (20, [.ref 0, .int a1, .int a2, .int a3], [.int v13], (zS I14 J tg))) rfl ?_
      by_cases c22 : v13 = 0
      · rw [if_pos c22] at h
        refine Runs.brT (P := v13 = 0) (a := 23) (b := 25) (L := [.ref 0, .int a1, .int a2, .int a3]) (S := []) (z := (zS I14 J tg)) rfl c22 ?_
        refine Runs.sN 1 (c' := (24, [.ref 0, .int a1, .int a2, .int a3], [.int (-1)], (zS I14 J tg))) rfl ?_
        subst h
        exact Runs.rt rfl
      · rw [if_neg c22] at h
        refine Runs.brF (P := v13 = 0) (a := 23) (b := 25) (L := [.ref 0, .int a1, .int a2, .int a3]) (S := []) (z := (zS I14 J tg)) rfl c22 ?_
        refine Runs.sN 6 (c' := (37, [.ref 0, .int a1, .int a2, .int a3], [.int (I14 7 4), .int a1, .ref 92], (zS I14 J tg))) rfl ?_
        obtain ⟨I15, c23, h⟩ := h
        refine Runs.cl (cm := 51) (as := [.ref 92, .int a1, .int (I14 7 4)]) (rest := []) (r1 := (none, (zS I15 J tg))) rfl (Nat.le_of_ble_eq_true rfl) c23 ?_
        refine Runs.as (c' := (40, [.ref 0, .int a1, .int a2, .int a3], [], (zS I15 J tg))) rfl ?_
        refine Runs.sN 3 (c' := (45, [.ref 0, .int a1, .int a2, .int a3], [.int a2, .ref 92], (zS I15 J tg))) rfl ?_
        obtain ⟨I16, c24, h⟩ := h
        refine Runs.cl (cm := 57) (as := [.ref 92, .int a2]) (rest := []) (r1 := (none, (zS I16 J tg))) rfl (Nat.le_of_ble_eq_true rfl) c24 ?_
        refine Runs.as (c' := (48, [.ref 0, .int a1, .int a2, .int a3], [], (zS I16 J tg))) rfl ?_
        refine Runs.sN 4 (c' := (56, [.ref 0, .int a1, .int a2, .int a3], [.int (-1), .int (I16 92 6)], (zS I16 J tg))) rfl ?_
        by_cases c25 : (I16 92 6) = (-1)
        · rw [if_pos c25] at h
          refine Runs.brT (P := (I16 92 6) = (-1)) (a := 59) (b := 61) (L := [.ref 0, .int a1, .int a2, .int a3]) (S := []) (z := (zS I16 J tg)) rfl c25 ?_
          refine Runs.sN 1 (c' := (60, [.ref 0, .int a1, .int a2, .int a3], [.int (-1)], (zS I16 J tg))) rfl ?_
          subst h
          exact Runs.rt rfl
        · rw [if_neg c25] at h
          refine Runs.brF (P := (I16 92 6) = (-1)) (a := 59) (b := 61) (L := [.ref 0, .int a1, .int a2, .int a3]) (S := []) (z := (zS I16 J tg)) rfl c25 ?_
          refine Runs.sN 1 (c' := (62, [.ref 0, .int a1, .int a2, .int a3], [.int a3], (zS I16 J tg))) rfl ?_
          by_cases c26 : a3 = 0
          · rw [if_pos c26] at h
            refine Runs.brT (P := a3 = 0) (a := 65) (b := 75) (L := [.ref 0, .int a1, .int a2, .int a3]) (S := []) (z := (zS I16 J tg)) rfl c26 ?_
            refine Runs.sN 4 (c' := (82, [.ref 0, .int a1, .int a2, .int a3], [.int (I16 92 6)], (zS I16 J tg))) rfl ?_
            subst h
            exact Runs.rt rfl
          · rw [if_neg c26] at h
            refine Runs.brF (P := a3 = 0) (a := 65) (b := 75) (L := [.ref 0, .int a1, .int a2, .int a3]) (S := []) (z := (zS I16 J tg)) rfl c26 ?_
            refine Runs.sN 3 (c' := (82, [.ref 0, .int a1, .int a2, .int a3], [.int (I16 92 7)], (zS I16 J tg))) rfl ?_
            subst h
            exact Runs.rt rfl
-- X11_mended 
theorem sg_158 {L d : Nat} {xs : Nat → Int32} (I : Nat → Nat → Int32) (J : Nat → Nat → Int64) (tg : Option Nat) (a1 : Int32) (a2 : Int32) (a3 : Int32) (a4 : Int32) {r : Option Value × SS} (h : (∃ (v11 : Int32) (I12 : Nat → Nat → Int32), Runs (GW L xs) d 44 (0, [.ref 1, .int a1], [], (zS I J tg)) ((some (.int v11)), (zS I12 J tg)) ∧ (if v11 = 0 then (r = (some (.int (-1)), (zS I12 J tg))) else (∃ (v13 : Int32) (I14 : Nat → Nat → Int32), Runs (GW L xs) d 44 (0, [.ref 1, .int a2], [], (zS I12 J tg)) ((some (.int v13)), (zS I14 J tg)) ∧ (if v13 = 0 then (r = (some (.int (-1)), (zS I14 J tg))) else ((if a1 = a2 then (r = (some (.int (-1)), (zS I14 J tg))) else (∃ (v15 : Int32) (I16 : Nat → Nat → Int32), Runs (GW L xs) d 164 (0, [.int a3, .int 1, .int 999], [], (zS I14 J tg)) ((some (.int v15)), (zS I16 J tg)) ∧ (if v15 = 0 then (r = (some (.int (-1)), (zS I16 J tg))) else (∃ (v17 : Int32) (I18 : Nat → Nat → Int32), Runs (GW L xs) d 164 (0, [.int a4, .int 0, .int 3], [], (zS I16 J tg)) ((some (.int v17)), (zS I18 J tg)) ∧ (if v17 = 0 then (r = (some (.int (-1)), (zS I18 J tg))) else (∃ (v19 : Int32) (I20 : Nat → Nat → Int32), Runs (GW L xs) d 10 (0, [.ref 79, .int a1, .int a2, .int a3, vU, vU, vU], [], (zS I18 J tg)) ((some (.int v19)), (zS I20 J tg)) ∧ (if v19 = 0 then (r = (some (.int (-1)), (zS I20 J tg))) else (¬ (a4 < 0 ∨ 4 ≤ (a4).toNatClampNeg) ∧ r = (some (.int (I20 82 ((a4).toNatClampNeg))), (zS I20 J tg)))))))))))))))) : Runs (GW L xs) (d + 1) 158 (0, [.ref 0, .int a1, .int a2, .int a3, .int a4], [], (zS I J tg)) r := by
  refine Runs.sN 3 (c' := (5, [.ref 0, .int a1, .int a2, .int a3, .int a4], [.int a1, .ref 1], (zS I J tg))) rfl ?_
  obtain ⟨v11, I12, c21, h⟩ := h
  refine Runs.cl (cm := 44) (as := [.ref 1, .int a1]) (rest := []) (r1 := ((some (.int v11)), (zS I12 J tg))) rfl (Nat.le_of_ble_eq_true rfl) c21 ?_
  refine Runs.as (c' := (8, [.ref 0, .int a1, .int a2, .int a3, .int a4], [.int v11], (zS I12 J tg))) rfl ?_
  by_cases c22 : v11 = 0
  · rw [if_pos c22] at h
    refine Runs.brT (P := v11 = 0) (a := 27) (b := 11) (L := [.ref 0, .int a1, .int a2, .int a3, .int a4]) (S := []) (z := (zS I12 J tg)) rfl c22 ?_
    refine Runs.sN 1 (c' := (28, [.ref 0, .int a1, .int a2, .int a3, .int a4], [.int (-1)], (zS I12 J tg))) rfl ?_
    subst h
    exact Runs.rt rfl
  · rw [if_neg c22] at h
    refine Runs.brF (P := v11 = 0) (a := 27) (b := 11) (L := [.ref 0, .int a1, .int a2, .int a3, .int a4]) (S := []) (z := (zS I12 J tg)) rfl c22 ?_
    refine Runs.sN 3 (c' := (16, [.ref 0, .int a1, .int a2, .int a3, .int a4], [.int a2, .ref 1], (zS I12 J tg))) rfl ?_
    obtain ⟨v13, I14, c23, h⟩ := h
    refine Runs.cl (cm := 44) (as := [.ref 1, .int a2]) (rest := []) (r1 := ((some (.int v13)), (zS I14 J tg))) rfl (Nat.le_of_ble_eq_true rfl) c23 ?_
    refine Runs.as (c' := (19, [.ref 0, .int a1, .int a2, .int a3, .int a4], [.int v13], (zS I14 J tg))) rfl ?_
    by_cases c24 : v13 = 0
    · rw [if_pos c24] at h
      refine Runs.brT (P := v13 = 0) (a := 27) (b := 22) (L := [.ref 0, .int a1, .int a2, .int a3, .int a4]) (S := []) (z := (zS I14 J tg)) rfl c24 ?_
      refine Runs.sN 1 (c' := (28, [.ref 0, .int a1, .int a2, .int a3, .int a4], [.int (-1)], (zS I14 J tg))) rfl ?_
      subst h
      exact Runs.rt rfl
    · rw [if_neg c24] at h
      refine Runs.brF (P := v13 = 0) (a := 27) (b := 22) (L := [.ref 0, .int a1, .int a2, .int a3, .int a4]) (S := []) (z := (zS I14 J tg)) rfl c24 ?_
      refine Runs.sN 2 (c' := (24, [.ref 0, .int a1, .int a2, .int a3, .int a4], [.int a2, .int a1], (zS I14 J tg))) rfl ?_
      by_cases c25 : a1 = a2
      · rw [if_pos c25] at h
        refine Runs.brT (P := a1 = a2) (a := 27) (b := 29) (L := [.ref 0, .int a1, .int a2, .int a3, .int a4]) (S := []) (z := (zS I14 J tg)) rfl c25 ?_
        refine Runs.sN 1 (c' := (28, [.ref 0, .int a1, .int a2, .int a3, .int a4], [.int (-1)], (zS I14 J tg))) rfl ?_
        subst h
        exact Runs.rt rfl
      · rw [if_neg c25] at h
        refine Runs.brF (P := a1 = a2) (a := 27) (b := 29) (L := [.ref 0, .int a1, .int a2, .int a3, .int a4]) (S := []) (z := (zS I14 J tg)) rfl c25 ?_
        refine Runs.sN 3 (c' := (34, [.ref 0, .int a1, .int a2, .int a3, .int a4], [.int 999, .int 1, .int a3], (zS I14 J tg))) rfl ?_
        obtain ⟨v15, I16, c26, h⟩ := h
        refine Runs.cl (cm := 164) (as := [.int a3, .int 1, .int 999]) (rest := []) (r1 := ((some (.int v15)), (zS I16 J tg))) rfl (Nat.le_of_ble_eq_true rfl) c26 ?_
        refine Runs.as (c' := (37, [.ref 0, .int a1, .int a2, .int a3, .int a4], [.int v15], (zS I16 J tg))) rfl ?_
        by_cases c27 : v15 = 0
        · rw [if_pos c27] at h
          refine Runs.brT (P := v15 = 0) (a := 50) (b := 40) (L := [.ref 0, .int a1, .int a2, .int a3, .int a4]) (S := []) (z := (zS I16 J tg)) rfl c27 ?_
          refine Runs.sN 1 (c' := (51, [.ref 0, .int a1, .int a2, .int a3, .int a4], [.int (-1)], (zS I16 J tg))) rfl ?_
          subst h
          exact Runs.rt rfl
        · rw [if_neg c27] at h
          refine Runs.brF (P := v15 = 0) (a := 50) (b := 40) (L := [.ref 0, .int a1, .int a2, .int a3, .int a4]) (S := []) (z := (zS I16 J tg)) rfl c27 ?_
          refine Runs.sN 3 (c' := (44, [.ref 0, .int a1, .int a2, .int a3, .int a4], [.int 3, .int 0, .int a4], (zS I16 J tg))) rfl ?_
          obtain ⟨v17, I18, c28, h⟩ := h
          refine Runs.cl (cm := 164) (as := [.int a4, .int 0, .int 3]) (rest := []) (r1 := ((some (.int v17)), (zS I18 J tg))) rfl (Nat.le_of_ble_eq_true rfl) c28 ?_
          refine Runs.as (c' := (47, [.ref 0, .int a1, .int a2, .int a3, .int a4], [.int v17], (zS I18 J tg))) rfl ?_
          by_cases c29 : v17 = 0
          · rw [if_pos c29] at h
            refine Runs.brT (P := v17 = 0) (a := 50) (b := 52) (L := [.ref 0, .int a1, .int a2, .int a3, .int a4]) (S := []) (z := (zS I18 J tg)) rfl c29 ?_
            refine Runs.sN 1 (c' := (51, [.ref 0, .int a1, .int a2, .int a3, .int a4], [.int (-1)], (zS I18 J tg))) rfl ?_
            subst h
            exact Runs.rt rfl
          · rw [if_neg c29] at h
            refine Runs.brF (P := v17 = 0) (a := 50) (b := 52) (L := [.ref 0, .int a1, .int a2, .int a3, .int a4]) (S := []) (z := (zS I18 J tg)) rfl c29 ?_
            refine Runs.sN 5 (c' := (59, [.ref 0, .int a1, .int a2, .int a3, .int a4], [.int a3, .int a2, .int a1, .ref 79], (zS I18 J tg))) rfl ?_
            obtain ⟨v19, I20, c30, h⟩ := h
            refine Runs.cl (cm := 10) (as := [.ref 79, .int a1, .int a2, .int a3]) (rest := []) (r1 := ((some (.int v19)), (zS I20 J tg))) rfl (Nat.le_of_ble_eq_true rfl) c30 ?_
            refine Runs.as (c' := (62, [.ref 0, .int a1, .int a2, .int a3, .int a4], [.int v19], (zS I20 J tg))) rfl ?_
            by_cases c31 : v19 = 0
            · rw [if_pos c31] at h
              refine Runs.brT (P := v19 = 0) (a := 78) (b := 65) (L := [.ref 0, .int a1, .int a2, .int a3, .int a4]) (S := []) (z := (zS I20 J tg)) rfl c31 ?_
              refine Runs.sN 1 (c' := (79, [.ref 0, .int a1, .int a2, .int a3, .int a4], [.int (-1)], (zS I20 J tg))) rfl ?_
              subst h
              exact Runs.rt rfl
            · rw [if_neg c31] at h
              refine Runs.brF (P := v19 = 0) (a := 78) (b := 65) (L := [.ref 0, .int a1, .int a2, .int a3, .int a4]) (S := []) (z := (zS I20 J tg)) rfl c31 ?_
              refine Runs.sN 4 (c' := (74, [.ref 0, .int a1, .int a2, .int a3, .int a4], [.int a4, .ref 82], (zS I20 J tg))) rfl ?_
              obtain ⟨c32, h⟩ := h
              refine Runs.to (c' := (75, [.ref 0, .int a1, .int a2, .int a3, .int a4], [.int (I20 82 ((a4).toNatClampNeg))], (zS I20 J tg))) (Runs.ild rfl (show (82 : Nat) < 114 by decide) rfl c32) ?_
              refine Runs.sN 1 (c' := (79, [.ref 0, .int a1, .int a2, .int a3, .int a4], [.int (I20 82 ((a4).toNatClampNeg))], (zS I20 J tg))) rfl ?_
              subst h
              exact Runs.rt rfl
-- X11_image 
theorem sg_159 {L d : Nat} {xs : Nat → Int32} (I : Nat → Nat → Int32) (J : Nat → Nat → Int64) (tg : Option Nat) {r : Option Value × SS} (h : (∃ (I4 : Nat → Nat → Int32), Runs (GW L xs) d 49 (0, [.ref 23, .ref 1], [], (zS I J tg)) (none, (zS I4 J tg)) ∧ ∃ (I5 : Nat → Nat → Int32), Runs (GW L xs) d 114 (0, [.ref 29, .ref 7], [], (zS I4 J tg)) (none, (zS I5 J tg)) ∧ ∃ (I6 : Nat → Nat → Int32), Runs (GW L xs) d 42 (0, [.ref 40, .ref 18], [], (zS I5 J tg)) (none, (zS I6 J tg)) ∧ r = (some (.int (I6 7 4)), (zS I6 J tg)))) : Runs (GW L xs) (d + 1) 159 (0, [.ref 0], [], (zS I J tg)) r := by
  refine Runs.sN 4 (c' := (8, [.ref 0], [.ref 1, .ref 23], (zS I J tg))) rfl ?_
  obtain ⟨I4, c7, h⟩ := h
  refine Runs.cl (cm := 49) (as := [.ref 23, .ref 1]) (rest := []) (r1 := (none, (zS I4 J tg))) rfl (Nat.le_of_ble_eq_true rfl) c7 ?_
  refine Runs.as (c' := (11, [.ref 0], [], (zS I4 J tg))) rfl ?_
  refine Runs.sN 4 (c' := (19, [.ref 0], [.ref 7, .ref 29], (zS I4 J tg))) rfl ?_
  obtain ⟨I5, c8, h⟩ := h
  refine Runs.cl (cm := 114) (as := [.ref 29, .ref 7]) (rest := []) (r1 := (none, (zS I5 J tg))) rfl (Nat.le_of_ble_eq_true rfl) c8 ?_
  refine Runs.as (c' := (22, [.ref 0], [], (zS I5 J tg))) rfl ?_
  refine Runs.sN 4 (c' := (30, [.ref 0], [.ref 18, .ref 40], (zS I5 J tg))) rfl ?_
  obtain ⟨I6, c9, h⟩ := h
  refine Runs.cl (cm := 42) (as := [.ref 40, .ref 18]) (rest := []) (r1 := (none, (zS I6 J tg))) rfl (Nat.le_of_ble_eq_true rfl) c9 ?_
  refine Runs.as (c' := (33, [.ref 0], [], (zS I6 J tg))) rfl ?_
  refine Runs.sN 3 (c' := (40, [.ref 0], [.int (I6 7 4)], (zS I6 J tg))) rfl ?_
  subst h
  exact Runs.rt rfl
-- X11_back 
theorem sg_160 {L d : Nat} {xs : Nat → Int32} (I : Nat → Nat → Int32) (J : Nat → Nat → Int64) (tg : Option Nat) {r : Option Value × SS} (h : (∃ (I5 : Nat → Nat → Int32), Runs (GW L xs) d 49 (0, [.ref 1, .ref 23], [], (zS I J tg)) (none, (zS I5 J tg)) ∧ ∃ (I6 : Nat → Nat → Int32), Runs (GW L xs) d 114 (0, [.ref 7, .ref 29], [], (zS I5 J tg)) (none, (zS I6 J tg)) ∧ ∃ (I7 : Nat → Nat → Int32), Runs (GW L xs) d 42 (0, [.ref 18, .ref 40], [], (zS I6 J tg)) (none, (zS I7 J tg)) ∧ ∃ (I8 : Nat → Nat → Int32), Runs (GW L xs) d 60 (0, [.ref 70], [], (zS I7 J tg)) (none, (zS I8 J tg)) ∧ r = (some (.int (I8 7 4)), (zS I8 J tg)))) : Runs (GW L xs) (d + 1) 160 (0, [.ref 0], [], (zS I J tg)) r := by
  refine Runs.sN 4 (c' := (8, [.ref 0], [.ref 23, .ref 1], (zS I J tg))) rfl ?_
  obtain ⟨I5, c9, h⟩ := h
  refine Runs.cl (cm := 49) (as := [.ref 1, .ref 23]) (rest := []) (r1 := (none, (zS I5 J tg))) rfl (Nat.le_of_ble_eq_true rfl) c9 ?_
  refine Runs.as (c' := (11, [.ref 0], [], (zS I5 J tg))) rfl ?_
  refine Runs.sN 4 (c' := (19, [.ref 0], [.ref 29, .ref 7], (zS I5 J tg))) rfl ?_
  obtain ⟨I6, c10, h⟩ := h
  refine Runs.cl (cm := 114) (as := [.ref 7, .ref 29]) (rest := []) (r1 := (none, (zS I6 J tg))) rfl (Nat.le_of_ble_eq_true rfl) c10 ?_
  refine Runs.as (c' := (22, [.ref 0], [], (zS I6 J tg))) rfl ?_
  refine Runs.sN 4 (c' := (30, [.ref 0], [.ref 40, .ref 18], (zS I6 J tg))) rfl ?_
  obtain ⟨I7, c11, h⟩ := h
  refine Runs.cl (cm := 42) (as := [.ref 18, .ref 40]) (rest := []) (r1 := (none, (zS I7 J tg))) rfl (Nat.le_of_ble_eq_true rfl) c11 ?_
  refine Runs.as (c' := (33, [.ref 0], [], (zS I7 J tg))) rfl ?_
  refine Runs.sN 2 (c' := (37, [.ref 0], [.ref 70], (zS I7 J tg))) rfl ?_
  obtain ⟨I8, c12, h⟩ := h
  refine Runs.cl (cm := 60) (as := [.ref 70]) (rest := []) (r1 := (none, (zS I8 J tg))) rfl (Nat.le_of_ble_eq_true rfl) c12 ?_
  refine Runs.as (c' := (40, [.ref 0], [], (zS I8 J tg))) rfl ?_
  refine Runs.sN 3 (c' := (47, [.ref 0], [.int (I8 7 4)], (zS I8 J tg))) rfl ?_
  subst h
  exact Runs.rt rfl
-- X11_partsAbout 
theorem sg_162 {L d : Nat} {xs : Nat → Int32} (I : Nat → Nat → Int32) (J : Nat → Nat → Int64) (tg : Option Nat) (a1 : Int32) {r : Option Value × SS} (h : (∃ (v5 : Int32) (I6 : Nat → Nat → Int32), Runs (GW L xs) d 164 (0, [.int a1, .int 20, .int 43], [], (zS I J tg)) ((some (.int v5)), (zS I6 J tg)) ∧ (if v5 = 0 then (r = (some (.int (-1)), (zS I6 J tg))) else (∃ (v7 : Int32) (I8 : Nat → Nat → Int32), Runs (GW L xs) d 46 (0, [.ref 1, .int (a1 - 20)], [], (zS I6 J tg)) ((some (.int v7)), (zS I8 J tg)) ∧ (if v7 = 0 then (r = (some (.int (-1)), (zS I8 J tg))) else (¬ ((a1 - 20) < 0 ∨ 24 ≤ (a1 - 20).toNatClampNeg) ∧ r = (some (.int (I8 3 ((a1 - 20).toNatClampNeg))), (zS I8 J tg)))))))) : Runs (GW L xs) (d + 1) 162 (0, [.ref 0, .int a1, vU], [], (zS I J tg)) r := by
  refine Runs.sN 3 (c' := (5, [.ref 0, .int a1, vU], [.int 43, .int 20, .int a1], (zS I J tg))) rfl ?_
  obtain ⟨v5, I6, c9, h⟩ := h
  refine Runs.cl (cm := 164) (as := [.int a1, .int 20, .int 43]) (rest := []) (r1 := ((some (.int v5)), (zS I6 J tg))) rfl (Nat.le_of_ble_eq_true rfl) c9 ?_
  refine Runs.as (c' := (8, [.ref 0, .int a1, vU], [.int v5], (zS I6 J tg))) rfl ?_
  by_cases c10 : v5 = 0
  · rw [if_pos c10] at h
    refine Runs.brT (P := v5 = 0) (a := 11) (b := 13) (L := [.ref 0, .int a1, vU]) (S := []) (z := (zS I6 J tg)) rfl c10 ?_
    refine Runs.sN 1 (c' := (12, [.ref 0, .int a1, vU], [.int (-1)], (zS I6 J tg))) rfl ?_
    subst h
    exact Runs.rt rfl
  · rw [if_neg c10] at h
    refine Runs.brF (P := v5 = 0) (a := 11) (b := 13) (L := [.ref 0, .int a1, vU]) (S := []) (z := (zS I6 J tg)) rfl c10 ?_
    refine Runs.sN 7 (c' := (23, [.ref 0, .int a1, .int (a1 - 20)], [.int (a1 - 20), .ref 1], (zS I6 J tg))) rfl ?_
    obtain ⟨v7, I8, c11, h⟩ := h
    refine Runs.cl (cm := 46) (as := [.ref 1, .int (a1 - 20)]) (rest := []) (r1 := ((some (.int v7)), (zS I8 J tg))) rfl (Nat.le_of_ble_eq_true rfl) c11 ?_
    refine Runs.as (c' := (26, [.ref 0, .int a1, .int (a1 - 20)], [.int v7], (zS I8 J tg))) rfl ?_
    by_cases c12 : v7 = 0
    · rw [if_pos c12] at h
      refine Runs.brT (P := v7 = 0) (a := 41) (b := 29) (L := [.ref 0, .int a1, .int (a1 - 20)]) (S := []) (z := (zS I8 J tg)) rfl c12 ?_
      refine Runs.sN 1 (c' := (42, [.ref 0, .int a1, .int (a1 - 20)], [.int (-1)], (zS I8 J tg))) rfl ?_
      subst h
      exact Runs.rt rfl
    · rw [if_neg c12] at h
      refine Runs.brF (P := v7 = 0) (a := 41) (b := 29) (L := [.ref 0, .int a1, .int (a1 - 20)]) (S := []) (z := (zS I8 J tg)) rfl c12 ?_
      refine Runs.sN 4 (c' := (37, [.ref 0, .int a1, .int (a1 - 20)], [.int (a1 - 20), .ref 3], (zS I8 J tg))) rfl ?_
      obtain ⟨c13, h⟩ := h
      refine Runs.to (c' := (38, [.ref 0, .int a1, .int (a1 - 20)], [.int (I8 3 ((a1 - 20).toNatClampNeg))], (zS I8 J tg))) (Runs.ild rfl (show (3 : Nat) < 114 by decide) rfl c13) ?_
      refine Runs.sN 1 (c' := (42, [.ref 0, .int a1, .int (a1 - 20)], [.int (I8 3 ((a1 - 20).toNatClampNeg))], (zS I8 J tg))) rfl ?_
      subst h
      exact Runs.rt rfl
-- X11_isReading 
theorem sg_163 {L d : Nat} {xs : Nat → Int32} (I : Nat → Nat → Int32) (J : Nat → Nat → Int64) (tg : Option Nat) (a1 : Int32) (a2 : Int32) (a3 : Int32) {r : Option Value × SS} (h : (∃ (v7 : Int32) (I8 : Nat → Nat → Int32), Runs (GW L xs) d 44 (0, [.ref 1, .int a1], [], (zS I J tg)) ((some (.int v7)), (zS I8 J tg)) ∧ (if v7 = 0 then (r = (some (.int 0), (zS I8 J tg))) else (∃ (v9 : Int32) (I10 : Nat → Nat → Int32), Runs (GW L xs) d 165 (0, [.int a2], [], (zS I8 J tg)) ((some (.int v9)), (zS I10 J tg)) ∧ (if v9 = 0 then (r = (some (.int 0), (zS I10 J tg))) else (∃ (v11 : Int32) (I12 : Nat → Nat → Int32), Runs (GW L xs) d 166 (0, [.int a3], [], (zS I10 J tg)) ((some (.int v11)), (zS I12 J tg)) ∧ (if v11 = 0 then (r = (some (.int 0), (zS I12 J tg))) else (r = (some (.int 1), (zS I12 J tg)))))))))) : Runs (GW L xs) (d + 1) 163 (0, [.ref 0, .int a1, .int a2, .int a3], [], (zS I J tg)) r := by
  refine Runs.sN 3 (c' := (5, [.ref 0, .int a1, .int a2, .int a3], [.int a1, .ref 1], (zS I J tg))) rfl ?_
  obtain ⟨v7, I8, c13, h⟩ := h
  refine Runs.cl (cm := 44) (as := [.ref 1, .int a1]) (rest := []) (r1 := ((some (.int v7)), (zS I8 J tg))) rfl (Nat.le_of_ble_eq_true rfl) c13 ?_
  refine Runs.as (c' := (8, [.ref 0, .int a1, .int a2, .int a3], [.int v7], (zS I8 J tg))) rfl ?_
  by_cases c14 : v7 = 0
  · rw [if_pos c14] at h
    refine Runs.brT (P := v7 = 0) (a := 29) (b := 11) (L := [.ref 0, .int a1, .int a2, .int a3]) (S := []) (z := (zS I8 J tg)) rfl c14 ?_
    refine Runs.sN 1 (c' := (30, [.ref 0, .int a1, .int a2, .int a3], [.int 0], (zS I8 J tg))) rfl ?_
    subst h
    exact Runs.rt rfl
  · rw [if_neg c14] at h
    refine Runs.brF (P := v7 = 0) (a := 29) (b := 11) (L := [.ref 0, .int a1, .int a2, .int a3]) (S := []) (z := (zS I8 J tg)) rfl c14 ?_
    refine Runs.sN 1 (c' := (12, [.ref 0, .int a1, .int a2, .int a3], [.int a2], (zS I8 J tg))) rfl ?_
    obtain ⟨v9, I10, c15, h⟩ := h
    refine Runs.cl (cm := 165) (as := [.int a2]) (rest := []) (r1 := ((some (.int v9)), (zS I10 J tg))) rfl (Nat.le_of_ble_eq_true rfl) c15 ?_
    refine Runs.as (c' := (15, [.ref 0, .int a1, .int a2, .int a3], [.int v9], (zS I10 J tg))) rfl ?_
    by_cases c16 : v9 = 0
    · rw [if_pos c16] at h
      refine Runs.brT (P := v9 = 0) (a := 29) (b := 18) (L := [.ref 0, .int a1, .int a2, .int a3]) (S := []) (z := (zS I10 J tg)) rfl c16 ?_
      refine Runs.sN 1 (c' := (30, [.ref 0, .int a1, .int a2, .int a3], [.int 0], (zS I10 J tg))) rfl ?_
      subst h
      exact Runs.rt rfl
    · rw [if_neg c16] at h
      refine Runs.brF (P := v9 = 0) (a := 29) (b := 18) (L := [.ref 0, .int a1, .int a2, .int a3]) (S := []) (z := (zS I10 J tg)) rfl c16 ?_
      refine Runs.sN 1 (c' := (19, [.ref 0, .int a1, .int a2, .int a3], [.int a3], (zS I10 J tg))) rfl ?_
      obtain ⟨v11, I12, c17, h⟩ := h
      refine Runs.cl (cm := 166) (as := [.int a3]) (rest := []) (r1 := ((some (.int v11)), (zS I12 J tg))) rfl (Nat.le_of_ble_eq_true rfl) c17 ?_
      refine Runs.as (c' := (22, [.ref 0, .int a1, .int a2, .int a3], [.int v11], (zS I12 J tg))) rfl ?_
      by_cases c18 : v11 = 0
      · rw [if_pos c18] at h
        refine Runs.brT (P := v11 = 0) (a := 29) (b := 25) (L := [.ref 0, .int a1, .int a2, .int a3]) (S := []) (z := (zS I12 J tg)) rfl c18 ?_
        refine Runs.sN 1 (c' := (30, [.ref 0, .int a1, .int a2, .int a3], [.int 0], (zS I12 J tg))) rfl ?_
        subst h
        exact Runs.rt rfl
      · rw [if_neg c18] at h
        refine Runs.brF (P := v11 = 0) (a := 29) (b := 25) (L := [.ref 0, .int a1, .int a2, .int a3]) (S := []) (z := (zS I12 J tg)) rfl c18 ?_
        refine Runs.sN 2 (c' := (30, [.ref 0, .int a1, .int a2, .int a3], [.int 1], (zS I12 J tg))) rfl ?_
        subst h
        exact Runs.rt rfl
-- X11_within 
theorem sg_164 {L d : Nat} {xs : Nat → Int32} (I : Nat → Nat → Int32) (J : Nat → Nat → Int64) (tg : Option Nat) (a1 : Int32) (a2 : Int32) (a3 : Int32) {r : Option Value × SS} (h : ((if a1 < a2 then (r = (some (.int 0), (zS I J tg))) else ((if a3 < a1 then (r = (some (.int 0), (zS I J tg))) else (r = (some (.int 1), (zS I J tg)))))))) : Runs (GW L xs) d 164 (0, [.int a1, .int a2, .int a3], [], (zS I J tg)) r := by
  refine Runs.sN 2 (c' := (2, [.int a1, .int a2, .int a3], [.int a2, .int a1], (zS I J tg))) rfl ?_
  by_cases c1 : a1 < a2
  · rw [if_pos c1] at h
    refine Runs.brT (P := a1 < a2) (a := 14) (b := 5) (L := [.int a1, .int a2, .int a3]) (S := []) (z := (zS I J tg)) rfl c1 ?_
    refine Runs.sN 1 (c' := (15, [.int a1, .int a2, .int a3], [.int 0], (zS I J tg))) rfl ?_
    subst h
    exact Runs.rt rfl
  · rw [if_neg c1] at h
    refine Runs.brF (P := a1 < a2) (a := 14) (b := 5) (L := [.int a1, .int a2, .int a3]) (S := []) (z := (zS I J tg)) rfl c1 ?_
    refine Runs.sN 2 (c' := (7, [.int a1, .int a2, .int a3], [.int a3, .int a1], (zS I J tg))) rfl ?_
    by_cases c2 : a3 < a1
    · rw [if_pos c2] at h
      refine Runs.brT (P := a3 < a1) (a := 14) (b := 10) (L := [.int a1, .int a2, .int a3]) (S := []) (z := (zS I J tg)) rfl c2 ?_
      refine Runs.sN 1 (c' := (15, [.int a1, .int a2, .int a3], [.int 0], (zS I J tg))) rfl ?_
      subst h
      exact Runs.rt rfl
    · rw [if_neg c2] at h
      refine Runs.brF (P := a3 < a1) (a := 14) (b := 10) (L := [.int a1, .int a2, .int a3]) (S := []) (z := (zS I J tg)) rfl c2 ?_
      refine Runs.sN 2 (c' := (15, [.int a1, .int a2, .int a3], [.int 1], (zS I J tg))) rfl ?_
      subst h
      exact Runs.rt rfl
-- X11_isLand 
theorem sg_165 {L d : Nat} {xs : Nat → Int32} (I : Nat → Nat → Int32) (J : Nat → Nat → Int64) (tg : Option Nat) (a1 : Int32) {r : Option Value × SS} (h : (∃ (v3 : Int32) (I4 : Nat → Nat → Int32), Runs (GW L xs) d 164 (0, [.int a1, .int 0, .int 5], [], (zS I J tg)) ((some (.int v3)), (zS I4 J tg)) ∧ (v3 = 0 ∨ v3 = 1) ∧ r = (some (.int v3), (zS I4 J tg)))) : Runs (GW L xs) (d + 1) 165 (0, [.int a1], [], (zS I J tg)) r := by
  refine Runs.sN 3 (c' := (3, [.int a1], [.int 5, .int 0, .int a1], (zS I J tg))) rfl ?_
  obtain ⟨v3, I4, c5, h⟩ := h
  refine Runs.cl (cm := 164) (as := [.int a1, .int 0, .int 5]) (rest := []) (r1 := ((some (.int v3)), (zS I4 J tg))) rfl (Nat.le_of_ble_eq_true rfl) c5 ?_
  refine Runs.as (c' := (6, [.int a1], [.int v3], (zS I4 J tg))) rfl ?_
  obtain ⟨h0, h⟩ := h
  subst h
  exact Runs.zrt rfl rfl h0
-- X11_isSite 
theorem sg_166 {L d : Nat} {xs : Nat → Int32} (I : Nat → Nat → Int32) (J : Nat → Nat → Int64) (tg : Option Nat) (a1 : Int32) {r : Option Value × SS} (h : (∃ (v3 : Int32) (I4 : Nat → Nat → Int32), Runs (GW L xs) d 164 (0, [.int a1, .int 0, .int 5], [], (zS I J tg)) ((some (.int v3)), (zS I4 J tg)) ∧ (v3 = 0 ∨ v3 = 1) ∧ r = (some (.int v3), (zS I4 J tg)))) : Runs (GW L xs) (d + 1) 166 (0, [.int a1], [], (zS I J tg)) r := by
  refine Runs.sN 3 (c' := (3, [.int a1], [.int 5, .int 0, .int a1], (zS I J tg))) rfl ?_
  obtain ⟨v3, I4, c5, h⟩ := h
  refine Runs.cl (cm := 164) (as := [.int a1, .int 0, .int 5]) (rest := []) (r1 := ((some (.int v3)), (zS I4 J tg))) rfl (Nat.le_of_ble_eq_true rfl) c5 ?_
  refine Runs.as (c' := (6, [.int a1], [.int v3], (zS I4 J tg))) rfl ?_
  obtain ⟨h0, h⟩ := h
  subst h
  exact Runs.zrt rfl rfl h0
-- X11_isPart 
theorem sg_167 {L d : Nat} {xs : Nat → Int32} (I : Nat → Nat → Int32) (J : Nat → Nat → Int64) (tg : Option Nat) (a1 : Int32) (a2 : Int32) (a3 : Int32) {r : Option Value × SS} (h : (∃ (v7 : Int32) (I8 : Nat → Nat → Int32), Runs (GW L xs) d 164 (0, [.int a1, .int 0, .int 4], [], (zS I J tg)) ((some (.int v7)), (zS I8 J tg)) ∧ (if v7 = 0 then (r = (some (.int 0), (zS I8 J tg))) else (∃ (v9 : Int32) (I10 : Nat → Nat → Int32), Runs (GW L xs) d 164 (0, [.int a2, .int 0, .int 8], [], (zS I8 J tg)) ((some (.int v9)), (zS I10 J tg)) ∧ (if v9 = 0 then (r = (some (.int 0), (zS I10 J tg))) else (∃ (v11 : Int32) (I12 : Nat → Nat → Int32), Runs (GW L xs) d 164 (0, [.int a3, .int 0, .int 3], [], (zS I10 J tg)) ((some (.int v11)), (zS I12 J tg)) ∧ (if v11 = 0 then (r = (some (.int 0), (zS I12 J tg))) else (r = (some (.int 1), (zS I12 J tg)))))))))) : Runs (GW L xs) (d + 1) 167 (0, [.int a1, .int a2, .int a3], [], (zS I J tg)) r := by
  refine Runs.sN 3 (c' := (3, [.int a1, .int a2, .int a3], [.int 4, .int 0, .int a1], (zS I J tg))) rfl ?_
  obtain ⟨v7, I8, c13, h⟩ := h
  refine Runs.cl (cm := 164) (as := [.int a1, .int 0, .int 4]) (rest := []) (r1 := ((some (.int v7)), (zS I8 J tg))) rfl (Nat.le_of_ble_eq_true rfl) c13 ?_
  refine Runs.as (c' := (6, [.int a1, .int a2, .int a3], [.int v7], (zS I8 J tg))) rfl ?_
  by_cases c14 : v7 = 0
  · rw [if_pos c14] at h
    refine Runs.brT (P := v7 = 0) (a := 32) (b := 9) (L := [.int a1, .int a2, .int a3]) (S := []) (z := (zS I8 J tg)) rfl c14 ?_
    refine Runs.sN 1 (c' := (33, [.int a1, .int a2, .int a3], [.int 0], (zS I8 J tg))) rfl ?_
    subst h
    exact Runs.rt rfl
  · rw [if_neg c14] at h
    refine Runs.brF (P := v7 = 0) (a := 32) (b := 9) (L := [.int a1, .int a2, .int a3]) (S := []) (z := (zS I8 J tg)) rfl c14 ?_
    refine Runs.sN 3 (c' := (13, [.int a1, .int a2, .int a3], [.int 8, .int 0, .int a2], (zS I8 J tg))) rfl ?_
    obtain ⟨v9, I10, c15, h⟩ := h
    refine Runs.cl (cm := 164) (as := [.int a2, .int 0, .int 8]) (rest := []) (r1 := ((some (.int v9)), (zS I10 J tg))) rfl (Nat.le_of_ble_eq_true rfl) c15 ?_
    refine Runs.as (c' := (16, [.int a1, .int a2, .int a3], [.int v9], (zS I10 J tg))) rfl ?_
    by_cases c16 : v9 = 0
    · rw [if_pos c16] at h
      refine Runs.brT (P := v9 = 0) (a := 32) (b := 19) (L := [.int a1, .int a2, .int a3]) (S := []) (z := (zS I10 J tg)) rfl c16 ?_
      refine Runs.sN 1 (c' := (33, [.int a1, .int a2, .int a3], [.int 0], (zS I10 J tg))) rfl ?_
      subst h
      exact Runs.rt rfl
    · rw [if_neg c16] at h
      refine Runs.brF (P := v9 = 0) (a := 32) (b := 19) (L := [.int a1, .int a2, .int a3]) (S := []) (z := (zS I10 J tg)) rfl c16 ?_
      refine Runs.sN 3 (c' := (22, [.int a1, .int a2, .int a3], [.int 3, .int 0, .int a3], (zS I10 J tg))) rfl ?_
      obtain ⟨v11, I12, c17, h⟩ := h
      refine Runs.cl (cm := 164) (as := [.int a3, .int 0, .int 3]) (rest := []) (r1 := ((some (.int v11)), (zS I12 J tg))) rfl (Nat.le_of_ble_eq_true rfl) c17 ?_
      refine Runs.as (c' := (25, [.int a1, .int a2, .int a3], [.int v11], (zS I12 J tg))) rfl ?_
      by_cases c18 : v11 = 0
      · rw [if_pos c18] at h
        refine Runs.brT (P := v11 = 0) (a := 32) (b := 28) (L := [.int a1, .int a2, .int a3]) (S := []) (z := (zS I12 J tg)) rfl c18 ?_
        refine Runs.sN 1 (c' := (33, [.int a1, .int a2, .int a3], [.int 0], (zS I12 J tg))) rfl ?_
        subst h
        exact Runs.rt rfl
      · rw [if_neg c18] at h
        refine Runs.brF (P := v11 = 0) (a := 32) (b := 28) (L := [.int a1, .int a2, .int a3]) (S := []) (z := (zS I12 J tg)) rfl c18 ?_
        refine Runs.sN 2 (c' := (33, [.int a1, .int a2, .int a3], [.int 1], (zS I12 J tg))) rfl ?_
        subst h
        exact Runs.rt rfl
-- X11_lookOf 
theorem sg_168 {L d : Nat} {xs : Nat → Int32} (I : Nat → Nat → Int32) (J : Nat → Nat → Int64) (tg : Option Nat) (a1 : Int32) {r : Option Value × SS} (h : ((if a1 = (-1) then (r = (some (.int (-1)), (zS I J tg))) else (r = (some (.int (12 + a1)), (zS I J tg)))))) : Runs (GW L xs) d 168 (0, [.int a1], [], (zS I J tg)) r := by
  refine Runs.sN 2 (c' := (2, [.int a1], [.int (-1), .int a1], (zS I J tg))) rfl ?_
  by_cases c1 : a1 = (-1)
  · rw [if_pos c1] at h
    refine Runs.brT (P := a1 = (-1)) (a := 5) (b := 9) (L := [.int a1]) (S := []) (z := (zS I J tg)) rfl c1 ?_
    refine Runs.sN 2 (c' := (13, [.int a1], [.int (-1)], (zS I J tg))) rfl ?_
    subst h
    exact Runs.rt rfl
  · rw [if_neg c1] at h
    refine Runs.brF (P := a1 = (-1)) (a := 5) (b := 9) (L := [.int a1]) (S := []) (z := (zS I J tg)) rfl c1 ?_
    refine Runs.sN 3 (c' := (13, [.int a1], [.int (12 + a1)], (zS I J tg))) rfl ?_
    subst h
    exact Runs.rt rfl
-- X11_codeOf 
theorem sg_169 {L d : Nat} {xs : Nat → Int32} (I : Nat → Nat → Int32) (J : Nat → Nat → Int64) (tg : Option Nat) (a1 : Int32) (a2 : Int32) (a3 : Int32) {r : Option Value × SS} (h : (r = (some (.int ((((a1 * 9) + a2) * 4) + a3)), (zS I J tg)))) : Runs (GW L xs) d 169 (0, [.int a1, .int a2, .int a3], [], (zS I J tg)) r := by
  refine Runs.sN 9 (c' := (10, [.int a1, .int a2, .int a3], [.int ((((a1 * 9) + a2) * 4) + a3)], (zS I J tg))) rfl ?_
  subst h
  exact Runs.rt rfl
-- X11_kindOf 
theorem sg_170 {L d : Nat} {xs : Nat → Int32} (I : Nat → Nat → Int32) (J : Nat → Nat → Int64) (tg : Option Nat) (a1 : Int32) {r : Option Value × SS} (h : (r = (some (.int (a1 / 36)), (zS I J tg)))) : Runs (GW L xs) d 170 (0, [.int a1], [], (zS I J tg)) r := by
  refine Runs.sN 3 (c' := (4, [.int a1], [.int (a1 / 36)], (zS I J tg))) rfl ?_
  subst h
  exact Runs.rt rfl
-- X11_placeOf 
theorem sg_171 {L d : Nat} {xs : Nat → Int32} (I : Nat → Nat → Int32) (J : Nat → Nat → Int64) (tg : Option Nat) (a1 : Int32) {r : Option Value × SS} (h : (r = (some (.int ((a1 / 4) - (a1 / 4) / 9 * 9)), (zS I J tg)))) : Runs (GW L xs) d 171 (0, [.int a1], [], (zS I J tg)) r := by
  refine Runs.sN 5 (c' := (6, [.int a1], [.int ((a1 / 4) - (a1 / 4) / 9 * 9)], (zS I J tg))) rfl ?_
  subst h
  exact Runs.rt rfl
-- X11_wayOf 
theorem sg_172 {L d : Nat} {xs : Nat → Int32} (I : Nat → Nat → Int32) (J : Nat → Nat → Int64) (tg : Option Nat) (a1 : Int32) {r : Option Value × SS} (h : (r = (some (.int (a1 - a1 / 4 * 4)), (zS I J tg)))) : Runs (GW L xs) d 172 (0, [.int a1], [], (zS I J tg)) r := by
  refine Runs.sN 3 (c' := (3, [.int a1], [.int (a1 - a1 / 4 * 4)], (zS I J tg))) rfl ?_
  subst h
  exact Runs.rt rfl
-- X11_holds c2
theorem sg_173c2 {L d : Nat} {xs : Nat → Int32} (I : Nat → Nat → Int32) (J : Nat → Nat → Int64) (tg : Option Nat) (a1 : Int32) (a2 : Int32) (a3 : Int32) {r : Option Value × SS} (h : (Runs (GW L xs) d 173 (3, [.ref 2, .int a1, .int a2, .int a3, .int 0], [], (zS I J tg)) r)) : Runs (GW L xs) d 173 (0, [.ref 2, .int a1, .int a2, .int a3, vU], [], (zS I J tg)) r := by
  refine Runs.sN 2 (c' := (3, [.ref 2, .int a1, .int a2, .int a3, .int 0], [], (zS I J tg))) rfl ?_
  exact h
theorem sg_173c2_3 {L d : Nat} {xs : Nat → Int32} (I : Nat → Nat → Int32) (J : Nat → Nat → Int64) (tg : Option Nat) (x1 : Int32) (x2 : Int32) (x3 : Int32) (x4 : Int32) {r : Option Value × SS} (h : ((if x2 ≤ x4 then (r = (some (.int 0), (zS I J tg))) else (¬ ((x1 + x4) < 0 ∨ 144 ≤ (x1 + x4).toNatClampNeg) ∧ (if (I 2 ((x1 + x4).toNatClampNeg)) = x3 then (r = (some (.int 1), (zS I J tg))) else (Runs (GW L xs) d 173 (3, [.ref 2, .int x1, .int x2, .int x3, .int (x4 + 1)], [], (zS I J tg)) r)))))) : Runs (GW L xs) d 173 (3, [.ref 2, .int x1, .int x2, .int x3, .int x4], [], (zS I J tg)) r := by
  refine Runs.sN 2 (c' := (6, [.ref 2, .int x1, .int x2, .int x3, .int x4], [.int x2, .int x4], (zS I J tg))) rfl ?_
  by_cases c1 : x2 ≤ x4
  · rw [if_pos c1] at h
    refine Runs.brT (P := x2 ≤ x4) (a := 27) (b := 9) (L := [.ref 2, .int x1, .int x2, .int x3, .int x4]) (S := []) (z := (zS I J tg)) rfl c1 ?_
    refine Runs.sN 1 (c' := (28, [.ref 2, .int x1, .int x2, .int x3, .int x4], [.int 0], (zS I J tg))) rfl ?_
    subst h
    exact Runs.rt rfl
  · rw [if_neg c1] at h
    refine Runs.brF (P := x2 ≤ x4) (a := 27) (b := 9) (L := [.ref 2, .int x1, .int x2, .int x3, .int x4]) (S := []) (z := (zS I J tg)) rfl c1 ?_
    refine Runs.sN 4 (c' := (14, [.ref 2, .int x1, .int x2, .int x3, .int x4], [.int (x1 + x4), .ref 2], (zS I J tg))) rfl ?_
    obtain ⟨c2, h⟩ := h
    refine Runs.to (c' := (15, [.ref 2, .int x1, .int x2, .int x3, .int x4], [.int (I 2 ((x1 + x4).toNatClampNeg))], (zS I J tg))) (Runs.ild rfl (show (2 : Nat) < 114 by decide) rfl c2) ?_
    refine Runs.sN 1 (c' := (16, [.ref 2, .int x1, .int x2, .int x3, .int x4], [.int x3, .int (I 2 ((x1 + x4).toNatClampNeg))], (zS I J tg))) rfl ?_
    by_cases c3 : (I 2 ((x1 + x4).toNatClampNeg)) = x3
    · rw [if_pos c3] at h
      refine Runs.brT (P := (I 2 ((x1 + x4).toNatClampNeg)) = x3) (a := 19) (b := 21) (L := [.ref 2, .int x1, .int x2, .int x3, .int x4]) (S := []) (z := (zS I J tg)) rfl c3 ?_
      refine Runs.sN 1 (c' := (20, [.ref 2, .int x1, .int x2, .int x3, .int x4], [.int 1], (zS I J tg))) rfl ?_
      subst h
      exact Runs.rt rfl
    · rw [if_neg c3] at h
      refine Runs.brF (P := (I 2 ((x1 + x4).toNatClampNeg)) = x3) (a := 19) (b := 21) (L := [.ref 2, .int x1, .int x2, .int x3, .int x4]) (S := []) (z := (zS I J tg)) rfl c3 ?_
      refine Runs.sN 2 (c' := (3, [.ref 2, .int x1, .int x2, .int x3, .int (x4 + 1)], [], (zS I J tg))) rfl ?_
      exact h
-- X11_holds c19
theorem sg_173c19 {L d : Nat} {xs : Nat → Int32} (I : Nat → Nat → Int32) (J : Nat → Nat → Int64) (tg : Option Nat) (a1 : Int32) (a2 : Int32) (a3 : Int32) {r : Option Value × SS} (h : (Runs (GW L xs) d 173 (3, [.ref 19, .int a1, .int a2, .int a3, .int 0], [], (zS I J tg)) r)) : Runs (GW L xs) d 173 (0, [.ref 19, .int a1, .int a2, .int a3, vU], [], (zS I J tg)) r := by
  refine Runs.sN 2 (c' := (3, [.ref 19, .int a1, .int a2, .int a3, .int 0], [], (zS I J tg))) rfl ?_
  exact h
theorem sg_173c19_3 {L d : Nat} {xs : Nat → Int32} (I : Nat → Nat → Int32) (J : Nat → Nat → Int64) (tg : Option Nat) (x1 : Int32) (x2 : Int32) (x3 : Int32) (x4 : Int32) {r : Option Value × SS} (h : ((if x2 ≤ x4 then (r = (some (.int 0), (zS I J tg))) else (¬ ((x1 + x4) < 0 ∨ 10 ≤ (x1 + x4).toNatClampNeg) ∧ (if (I 19 ((x1 + x4).toNatClampNeg)) = x3 then (r = (some (.int 1), (zS I J tg))) else (Runs (GW L xs) d 173 (3, [.ref 19, .int x1, .int x2, .int x3, .int (x4 + 1)], [], (zS I J tg)) r)))))) : Runs (GW L xs) d 173 (3, [.ref 19, .int x1, .int x2, .int x3, .int x4], [], (zS I J tg)) r := by
  refine Runs.sN 2 (c' := (6, [.ref 19, .int x1, .int x2, .int x3, .int x4], [.int x2, .int x4], (zS I J tg))) rfl ?_
  by_cases c1 : x2 ≤ x4
  · rw [if_pos c1] at h
    refine Runs.brT (P := x2 ≤ x4) (a := 27) (b := 9) (L := [.ref 19, .int x1, .int x2, .int x3, .int x4]) (S := []) (z := (zS I J tg)) rfl c1 ?_
    refine Runs.sN 1 (c' := (28, [.ref 19, .int x1, .int x2, .int x3, .int x4], [.int 0], (zS I J tg))) rfl ?_
    subst h
    exact Runs.rt rfl
  · rw [if_neg c1] at h
    refine Runs.brF (P := x2 ≤ x4) (a := 27) (b := 9) (L := [.ref 19, .int x1, .int x2, .int x3, .int x4]) (S := []) (z := (zS I J tg)) rfl c1 ?_
    refine Runs.sN 4 (c' := (14, [.ref 19, .int x1, .int x2, .int x3, .int x4], [.int (x1 + x4), .ref 19], (zS I J tg))) rfl ?_
    obtain ⟨c2, h⟩ := h
    refine Runs.to (c' := (15, [.ref 19, .int x1, .int x2, .int x3, .int x4], [.int (I 19 ((x1 + x4).toNatClampNeg))], (zS I J tg))) (Runs.ild rfl (show (19 : Nat) < 114 by decide) rfl c2) ?_
    refine Runs.sN 1 (c' := (16, [.ref 19, .int x1, .int x2, .int x3, .int x4], [.int x3, .int (I 19 ((x1 + x4).toNatClampNeg))], (zS I J tg))) rfl ?_
    by_cases c3 : (I 19 ((x1 + x4).toNatClampNeg)) = x3
    · rw [if_pos c3] at h
      refine Runs.brT (P := (I 19 ((x1 + x4).toNatClampNeg)) = x3) (a := 19) (b := 21) (L := [.ref 19, .int x1, .int x2, .int x3, .int x4]) (S := []) (z := (zS I J tg)) rfl c3 ?_
      refine Runs.sN 1 (c' := (20, [.ref 19, .int x1, .int x2, .int x3, .int x4], [.int 1], (zS I J tg))) rfl ?_
      subst h
      exact Runs.rt rfl
    · rw [if_neg c3] at h
      refine Runs.brF (P := (I 19 ((x1 + x4).toNatClampNeg)) = x3) (a := 19) (b := 21) (L := [.ref 19, .int x1, .int x2, .int x3, .int x4]) (S := []) (z := (zS I J tg)) rfl c3 ?_
      refine Runs.sN 2 (c' := (3, [.ref 19, .int x1, .int x2, .int x3, .int (x4 + 1)], [], (zS I J tg))) rfl ?_
      exact h
-- X11_holds c20
theorem sg_173c20 {L d : Nat} {xs : Nat → Int32} (I : Nat → Nat → Int32) (J : Nat → Nat → Int64) (tg : Option Nat) (a1 : Int32) (a2 : Int32) (a3 : Int32) {r : Option Value × SS} (h : (Runs (GW L xs) d 173 (3, [.ref 20, .int a1, .int a2, .int a3, .int 0], [], (zS I J tg)) r)) : Runs (GW L xs) d 173 (0, [.ref 20, .int a1, .int a2, .int a3, vU], [], (zS I J tg)) r := by
  refine Runs.sN 2 (c' := (3, [.ref 20, .int a1, .int a2, .int a3, .int 0], [], (zS I J tg))) rfl ?_
  exact h
theorem sg_173c20_3 {L d : Nat} {xs : Nat → Int32} (I : Nat → Nat → Int32) (J : Nat → Nat → Int64) (tg : Option Nat) (x1 : Int32) (x2 : Int32) (x3 : Int32) (x4 : Int32) {r : Option Value × SS} (h : ((if x2 ≤ x4 then (r = (some (.int 0), (zS I J tg))) else (¬ ((x1 + x4) < 0 ∨ 24 ≤ (x1 + x4).toNatClampNeg) ∧ (if (I 20 ((x1 + x4).toNatClampNeg)) = x3 then (r = (some (.int 1), (zS I J tg))) else (Runs (GW L xs) d 173 (3, [.ref 20, .int x1, .int x2, .int x3, .int (x4 + 1)], [], (zS I J tg)) r)))))) : Runs (GW L xs) d 173 (3, [.ref 20, .int x1, .int x2, .int x3, .int x4], [], (zS I J tg)) r := by
  refine Runs.sN 2 (c' := (6, [.ref 20, .int x1, .int x2, .int x3, .int x4], [.int x2, .int x4], (zS I J tg))) rfl ?_
  by_cases c1 : x2 ≤ x4
  · rw [if_pos c1] at h
    refine Runs.brT (P := x2 ≤ x4) (a := 27) (b := 9) (L := [.ref 20, .int x1, .int x2, .int x3, .int x4]) (S := []) (z := (zS I J tg)) rfl c1 ?_
    refine Runs.sN 1 (c' := (28, [.ref 20, .int x1, .int x2, .int x3, .int x4], [.int 0], (zS I J tg))) rfl ?_
    subst h
    exact Runs.rt rfl
  · rw [if_neg c1] at h
    refine Runs.brF (P := x2 ≤ x4) (a := 27) (b := 9) (L := [.ref 20, .int x1, .int x2, .int x3, .int x4]) (S := []) (z := (zS I J tg)) rfl c1 ?_
    refine Runs.sN 4 (c' := (14, [.ref 20, .int x1, .int x2, .int x3, .int x4], [.int (x1 + x4), .ref 20], (zS I J tg))) rfl ?_
    obtain ⟨c2, h⟩ := h
    refine Runs.to (c' := (15, [.ref 20, .int x1, .int x2, .int x3, .int x4], [.int (I 20 ((x1 + x4).toNatClampNeg))], (zS I J tg))) (Runs.ild rfl (show (20 : Nat) < 114 by decide) rfl c2) ?_
    refine Runs.sN 1 (c' := (16, [.ref 20, .int x1, .int x2, .int x3, .int x4], [.int x3, .int (I 20 ((x1 + x4).toNatClampNeg))], (zS I J tg))) rfl ?_
    by_cases c3 : (I 20 ((x1 + x4).toNatClampNeg)) = x3
    · rw [if_pos c3] at h
      refine Runs.brT (P := (I 20 ((x1 + x4).toNatClampNeg)) = x3) (a := 19) (b := 21) (L := [.ref 20, .int x1, .int x2, .int x3, .int x4]) (S := []) (z := (zS I J tg)) rfl c3 ?_
      refine Runs.sN 1 (c' := (20, [.ref 20, .int x1, .int x2, .int x3, .int x4], [.int 1], (zS I J tg))) rfl ?_
      subst h
      exact Runs.rt rfl
    · rw [if_neg c3] at h
      refine Runs.brF (P := (I 20 ((x1 + x4).toNatClampNeg)) = x3) (a := 19) (b := 21) (L := [.ref 20, .int x1, .int x2, .int x3, .int x4]) (S := []) (z := (zS I J tg)) rfl c3 ?_
      refine Runs.sN 2 (c' := (3, [.ref 20, .int x1, .int x2, .int x3, .int (x4 + 1)], [], (zS I J tg))) rfl ?_
      exact h
-- X11_holds c80
theorem sg_173c80 {L d : Nat} {xs : Nat → Int32} (I : Nat → Nat → Int32) (J : Nat → Nat → Int64) (tg : Option Nat) (a1 : Int32) (a2 : Int32) (a3 : Int32) {r : Option Value × SS} (h : (Runs (GW L xs) d 173 (3, [.ref 80, .int a1, .int a2, .int a3, .int 0], [], (zS I J tg)) r)) : Runs (GW L xs) d 173 (0, [.ref 80, .int a1, .int a2, .int a3, vU], [], (zS I J tg)) r := by
  refine Runs.sN 2 (c' := (3, [.ref 80, .int a1, .int a2, .int a3, .int 0], [], (zS I J tg))) rfl ?_
  exact h
theorem sg_173c80_3 {L d : Nat} {xs : Nat → Int32} (I : Nat → Nat → Int32) (J : Nat → Nat → Int64) (tg : Option Nat) (x1 : Int32) (x2 : Int32) (x3 : Int32) (x4 : Int32) {r : Option Value × SS} (h : ((if x2 ≤ x4 then (r = (some (.int 0), (zS I J tg))) else (¬ ((x1 + x4) < 0 ∨ 6 ≤ (x1 + x4).toNatClampNeg) ∧ (if (I 80 ((x1 + x4).toNatClampNeg)) = x3 then (r = (some (.int 1), (zS I J tg))) else (Runs (GW L xs) d 173 (3, [.ref 80, .int x1, .int x2, .int x3, .int (x4 + 1)], [], (zS I J tg)) r)))))) : Runs (GW L xs) d 173 (3, [.ref 80, .int x1, .int x2, .int x3, .int x4], [], (zS I J tg)) r := by
  refine Runs.sN 2 (c' := (6, [.ref 80, .int x1, .int x2, .int x3, .int x4], [.int x2, .int x4], (zS I J tg))) rfl ?_
  by_cases c1 : x2 ≤ x4
  · rw [if_pos c1] at h
    refine Runs.brT (P := x2 ≤ x4) (a := 27) (b := 9) (L := [.ref 80, .int x1, .int x2, .int x3, .int x4]) (S := []) (z := (zS I J tg)) rfl c1 ?_
    refine Runs.sN 1 (c' := (28, [.ref 80, .int x1, .int x2, .int x3, .int x4], [.int 0], (zS I J tg))) rfl ?_
    subst h
    exact Runs.rt rfl
  · rw [if_neg c1] at h
    refine Runs.brF (P := x2 ≤ x4) (a := 27) (b := 9) (L := [.ref 80, .int x1, .int x2, .int x3, .int x4]) (S := []) (z := (zS I J tg)) rfl c1 ?_
    refine Runs.sN 4 (c' := (14, [.ref 80, .int x1, .int x2, .int x3, .int x4], [.int (x1 + x4), .ref 80], (zS I J tg))) rfl ?_
    obtain ⟨c2, h⟩ := h
    refine Runs.to (c' := (15, [.ref 80, .int x1, .int x2, .int x3, .int x4], [.int (I 80 ((x1 + x4).toNatClampNeg))], (zS I J tg))) (Runs.ild rfl (show (80 : Nat) < 114 by decide) rfl c2) ?_
    refine Runs.sN 1 (c' := (16, [.ref 80, .int x1, .int x2, .int x3, .int x4], [.int x3, .int (I 80 ((x1 + x4).toNatClampNeg))], (zS I J tg))) rfl ?_
    by_cases c3 : (I 80 ((x1 + x4).toNatClampNeg)) = x3
    · rw [if_pos c3] at h
      refine Runs.brT (P := (I 80 ((x1 + x4).toNatClampNeg)) = x3) (a := 19) (b := 21) (L := [.ref 80, .int x1, .int x2, .int x3, .int x4]) (S := []) (z := (zS I J tg)) rfl c3 ?_
      refine Runs.sN 1 (c' := (20, [.ref 80, .int x1, .int x2, .int x3, .int x4], [.int 1], (zS I J tg))) rfl ?_
      subst h
      exact Runs.rt rfl
    · rw [if_neg c3] at h
      refine Runs.brF (P := (I 80 ((x1 + x4).toNatClampNeg)) = x3) (a := 19) (b := 21) (L := [.ref 80, .int x1, .int x2, .int x3, .int x4]) (S := []) (z := (zS I J tg)) rfl c3 ?_
      refine Runs.sN 2 (c' := (3, [.ref 80, .int x1, .int x2, .int x3, .int (x4 + 1)], [], (zS I J tg))) rfl ?_
      exact h
-- X12_isIn 
theorem sg_177 {L d : Nat} {xs : Nat → Int32} (I : Nat → Nat → Int32) (J : Nat → Nat → Int64) (tg : Option Nat) (a1 : Int32) (a2 : Int32) (a3 : Int32) {r : Option Value × SS} (h : ((if a1 < a2 then (r = (some (.int 0), (zS I J tg))) else ((if a3 < a1 then (r = (some (.int 0), (zS I J tg))) else (r = (some (.int 1), (zS I J tg)))))))) : Runs (GW L xs) d 177 (0, [.int a1, .int a2, .int a3], [], (zS I J tg)) r := by
  refine Runs.sN 2 (c' := (2, [.int a1, .int a2, .int a3], [.int a2, .int a1], (zS I J tg))) rfl ?_
  by_cases c1 : a1 < a2
  · rw [if_pos c1] at h
    refine Runs.brT (P := a1 < a2) (a := 14) (b := 5) (L := [.int a1, .int a2, .int a3]) (S := []) (z := (zS I J tg)) rfl c1 ?_
    refine Runs.sN 1 (c' := (15, [.int a1, .int a2, .int a3], [.int 0], (zS I J tg))) rfl ?_
    subst h
    exact Runs.rt rfl
  · rw [if_neg c1] at h
    refine Runs.brF (P := a1 < a2) (a := 14) (b := 5) (L := [.int a1, .int a2, .int a3]) (S := []) (z := (zS I J tg)) rfl c1 ?_
    refine Runs.sN 2 (c' := (7, [.int a1, .int a2, .int a3], [.int a3, .int a1], (zS I J tg))) rfl ?_
    by_cases c2 : a3 < a1
    · rw [if_pos c2] at h
      refine Runs.brT (P := a3 < a1) (a := 14) (b := 10) (L := [.int a1, .int a2, .int a3]) (S := []) (z := (zS I J tg)) rfl c2 ?_
      refine Runs.sN 1 (c' := (15, [.int a1, .int a2, .int a3], [.int 0], (zS I J tg))) rfl ?_
      subst h
      exact Runs.rt rfl
    · rw [if_neg c2] at h
      refine Runs.brF (P := a3 < a1) (a := 14) (b := 10) (L := [.int a1, .int a2, .int a3]) (S := []) (z := (zS I J tg)) rfl c2 ?_
      refine Runs.sN 2 (c' := (15, [.int a1, .int a2, .int a3], [.int 1], (zS I J tg))) rfl ?_
      subst h
      exact Runs.rt rfl
-- X12_abs 
theorem sg_178 {L d : Nat} {xs : Nat → Int32} (I : Nat → Nat → Int32) (J : Nat → Nat → Int64) (tg : Option Nat) (a1 : Int32) {r : Option Value × SS} (h : ((if 0 ≤ a1 then (r = (some (.int a1), (zS I J tg))) else (r = (some (.int (-a1)), (zS I J tg)))))) : Runs (GW L xs) d 178 (0, [.int a1], [], (zS I J tg)) r := by
  refine Runs.sN 1 (c' := (1, [.int a1], [.int a1], (zS I J tg))) rfl ?_
  by_cases c1 : 0 ≤ a1
  · rw [if_pos c1] at h
    refine Runs.brT (P := 0 ≤ a1) (a := 9) (b := 4) (L := [.int a1]) (S := []) (z := (zS I J tg)) rfl c1 ?_
    refine Runs.sN 1 (c' := (10, [.int a1], [.int a1], (zS I J tg))) rfl ?_
    subst h
    exact Runs.rt rfl
  · rw [if_neg c1] at h
    refine Runs.brF (P := 0 ≤ a1) (a := 9) (b := 4) (L := [.int a1]) (S := []) (z := (zS I J tg)) rfl c1 ?_
    refine Runs.sN 3 (c' := (10, [.int a1], [.int (-a1)], (zS I J tg))) rfl ?_
    subst h
    exact Runs.rt rfl
-- X12_isDrawing 
theorem sg_179 {L d : Nat} {xs : Nat → Int32} (I : Nat → Nat → Int32) (J : Nat → Nat → Int64) (tg : Option Nat) (a1 : Int32) {r : Option Value × SS} (h : (∃ (v4 : Int32) (I5 : Nat → Nat → Int32) (J6 : Nat → Nat → Int64), Runs (GW L xs) d 177 (0, [.int a1, .int 0, .int ((I 94 1) - 1)], [], (zS I J tg)) ((some (.int v4)), (zS I5 J6 tg)) ∧ (v4 = 0 ∨ v4 = 1) ∧ r = (some (.int v4), (zS I5 J6 tg)))) : Runs (GW L xs) (d + 1) 179 (0, [.ref 93, .int a1], [], (zS I J tg)) r := by
  refine Runs.sN 8 (c' := (10, [.ref 93, .int a1], [.int ((I 94 1) - 1), .int 0, .int a1], (zS I J tg))) rfl ?_
  obtain ⟨v4, I5, J6, c7, h⟩ := h
  refine Runs.cl (cm := 177) (as := [.int a1, .int 0, .int ((I 94 1) - 1)]) (rest := []) (r1 := ((some (.int v4)), (zS I5 J6 tg))) rfl (Nat.le_of_ble_eq_true rfl) c7 ?_
  refine Runs.as (c' := (13, [.ref 93, .int a1], [.int v4], (zS I5 J6 tg))) rfl ?_
  obtain ⟨h0, h⟩ := h
  subst h
  exact Runs.zrt rfl rfl h0
-- X12_isThing 
theorem sg_180 {L d : Nat} {xs : Nat → Int32} (I : Nat → Nat → Int32) (J : Nat → Nat → Int64) (tg : Option Nat) (a1 : Int32) {r : Option Value × SS} (h : (∃ (v4 : Int32) (I5 : Nat → Nat → Int32) (J6 : Nat → Nat → Int64), Runs (GW L xs) d 177 (0, [.int a1, .int 12, .int (11 + (I 94 2))], [], (zS I J tg)) ((some (.int v4)), (zS I5 J6 tg)) ∧ (v4 = 0 ∨ v4 = 1) ∧ r = (some (.int v4), (zS I5 J6 tg)))) : Runs (GW L xs) (d + 1) 180 (0, [.ref 93, .int a1], [], (zS I J tg)) r := by
  refine Runs.sN 8 (c' := (12, [.ref 93, .int a1], [.int (11 + (I 94 2)), .int 12, .int a1], (zS I J tg))) rfl ?_
  obtain ⟨v4, I5, J6, c7, h⟩ := h
  refine Runs.cl (cm := 177) (as := [.int a1, .int 12, .int (11 + (I 94 2))]) (rest := []) (r1 := ((some (.int v4)), (zS I5 J6 tg))) rfl (Nat.le_of_ble_eq_true rfl) c7 ?_
  refine Runs.as (c' := (15, [.ref 93, .int a1], [.int v4], (zS I5 J6 tg))) rfl ?_
  obtain ⟨h0, h⟩ := h
  subst h
  exact Runs.zrt rfl rfl h0
-- X12_isLook 
theorem sg_181 {L d : Nat} {xs : Nat → Int32} (I : Nat → Nat → Int32) (J : Nat → Nat → Int64) (tg : Option Nat) (a1 : Int32) {r : Option Value × SS} (h : (∃ (v7 : Int32) (I8 : Nat → Nat → Int32) (J9 : Nat → Nat → Int64), Runs (GW L xs) d 179 (0, [.ref 93, .int a1], [], (zS I J tg)) ((some (.int v7)), (zS I8 J9 tg)) ∧ (if v7 = 0 then (∃ (v10 : Int32) (I11 : Nat → Nat → Int32) (J12 : Nat → Nat → Int64), Runs (GW L xs) d 180 (0, [.ref 93, .int a1], [], (zS I8 J9 tg)) ((some (.int v10)), (zS I11 J12 tg)) ∧ (if v10 = 0 then (r = (some (.int 0), (zS I11 J12 tg))) else (r = (some (.int 1), (zS I11 J12 tg))))) else (r = (some (.int 1), (zS I8 J9 tg)))))) : Runs (GW L xs) (d + 1) 181 (0, [.ref 93, .int a1], [], (zS I J tg)) r := by
  refine Runs.sN 2 (c' := (2, [.ref 93, .int a1], [.int a1, .ref 93], (zS I J tg))) rfl ?_
  obtain ⟨v7, I8, J9, c13, h⟩ := h
  refine Runs.cl (cm := 179) (as := [.ref 93, .int a1]) (rest := []) (r1 := ((some (.int v7)), (zS I8 J9 tg))) rfl (Nat.le_of_ble_eq_true rfl) c13 ?_
  refine Runs.as (c' := (5, [.ref 93, .int a1], [.int v7], (zS I8 J9 tg))) rfl ?_
  by_cases c14 : v7 = 0
  · rw [if_pos c14] at h
    refine Runs.brT (P := v7 = 0) (a := 8) (b := 16) (L := [.ref 93, .int a1]) (S := []) (z := (zS I8 J9 tg)) rfl c14 ?_
    refine Runs.sN 2 (c' := (10, [.ref 93, .int a1], [.int a1, .ref 93], (zS I8 J9 tg))) rfl ?_
    obtain ⟨v10, I11, J12, c15, h⟩ := h
    refine Runs.cl (cm := 180) (as := [.ref 93, .int a1]) (rest := []) (r1 := ((some (.int v10)), (zS I11 J12 tg))) rfl (Nat.le_of_ble_eq_true rfl) c15 ?_
    refine Runs.as (c' := (13, [.ref 93, .int a1], [.int v10], (zS I11 J12 tg))) rfl ?_
    by_cases c16 : v10 = 0
    · rw [if_pos c16] at h
      refine Runs.brT (P := v10 = 0) (a := 20) (b := 16) (L := [.ref 93, .int a1]) (S := []) (z := (zS I11 J12 tg)) rfl c16 ?_
      refine Runs.sN 1 (c' := (21, [.ref 93, .int a1], [.int 0], (zS I11 J12 tg))) rfl ?_
      subst h
      exact Runs.rt rfl
    · rw [if_neg c16] at h
      refine Runs.brF (P := v10 = 0) (a := 20) (b := 16) (L := [.ref 93, .int a1]) (S := []) (z := (zS I11 J12 tg)) rfl c16 ?_
      refine Runs.sN 2 (c' := (21, [.ref 93, .int a1], [.int 1], (zS I11 J12 tg))) rfl ?_
      subst h
      exact Runs.rt rfl
  · rw [if_neg c14] at h
    refine Runs.brF (P := v7 = 0) (a := 8) (b := 16) (L := [.ref 93, .int a1]) (S := []) (z := (zS I8 J9 tg)) rfl c14 ?_
    refine Runs.sN 2 (c' := (21, [.ref 93, .int a1], [.int 1], (zS I8 J9 tg))) rfl ?_
    subst h
    exact Runs.rt rfl
-- X12_isLand 
theorem sg_182 {L d : Nat} {xs : Nat → Int32} (I : Nat → Nat → Int32) (J : Nat → Nat → Int64) (tg : Option Nat) (a1 : Int32) {r : Option Value × SS} (h : (∃ (v4 : Int32) (I5 : Nat → Nat → Int32) (J6 : Nat → Nat → Int64), Runs (GW L xs) d 177 (0, [.int a1, .int 0, .int 5], [], (zS I J tg)) ((some (.int v4)), (zS I5 J6 tg)) ∧ (v4 = 0 ∨ v4 = 1) ∧ r = (some (.int v4), (zS I5 J6 tg)))) : Runs (GW L xs) (d + 1) 182 (0, [.int a1], [], (zS I J tg)) r := by
  refine Runs.sN 3 (c' := (3, [.int a1], [.int 5, .int 0, .int a1], (zS I J tg))) rfl ?_
  obtain ⟨v4, I5, J6, c7, h⟩ := h
  refine Runs.cl (cm := 177) (as := [.int a1, .int 0, .int 5]) (rest := []) (r1 := ((some (.int v4)), (zS I5 J6 tg))) rfl (Nat.le_of_ble_eq_true rfl) c7 ?_
  refine Runs.as (c' := (6, [.int a1], [.int v4], (zS I5 J6 tg))) rfl ?_
  obtain ⟨h0, h⟩ := h
  subst h
  exact Runs.zrt rfl rfl h0
-- X12_isPart 
theorem sg_183 {L d : Nat} {xs : Nat → Int32} (I : Nat → Nat → Int32) (J : Nat → Nat → Int64) (tg : Option Nat) (a1 : Int32) (a2 : Int32) (a3 : Int32) {r : Option Value × SS} (h : (∃ (v10 : Int32) (I11 : Nat → Nat → Int32) (J12 : Nat → Nat → Int64), Runs (GW L xs) d 177 (0, [.int a1, .int 0, .int 4], [], (zS I J tg)) ((some (.int v10)), (zS I11 J12 tg)) ∧ (if v10 = 0 then (r = (some (.int 0), (zS I11 J12 tg))) else (∃ (v13 : Int32) (I14 : Nat → Nat → Int32) (J15 : Nat → Nat → Int64), Runs (GW L xs) d 177 (0, [.int a2, .int 0, .int 8], [], (zS I11 J12 tg)) ((some (.int v13)), (zS I14 J15 tg)) ∧ (if v13 = 0 then (r = (some (.int 0), (zS I14 J15 tg))) else (∃ (v16 : Int32) (I17 : Nat → Nat → Int32) (J18 : Nat → Nat → Int64), Runs (GW L xs) d 177 (0, [.int a3, .int 0, .int 3], [], (zS I14 J15 tg)) ((some (.int v16)), (zS I17 J18 tg)) ∧ (if v16 = 0 then (r = (some (.int 0), (zS I17 J18 tg))) else (r = (some (.int 1), (zS I17 J18 tg)))))))))) : Runs (GW L xs) (d + 1) 183 (0, [.int a1, .int a2, .int a3], [], (zS I J tg)) r := by
  refine Runs.sN 3 (c' := (3, [.int a1, .int a2, .int a3], [.int 4, .int 0, .int a1], (zS I J tg))) rfl ?_
  obtain ⟨v10, I11, J12, c19, h⟩ := h
  refine Runs.cl (cm := 177) (as := [.int a1, .int 0, .int 4]) (rest := []) (r1 := ((some (.int v10)), (zS I11 J12 tg))) rfl (Nat.le_of_ble_eq_true rfl) c19 ?_
  refine Runs.as (c' := (6, [.int a1, .int a2, .int a3], [.int v10], (zS I11 J12 tg))) rfl ?_
  by_cases c20 : v10 = 0
  · rw [if_pos c20] at h
    refine Runs.brT (P := v10 = 0) (a := 32) (b := 9) (L := [.int a1, .int a2, .int a3]) (S := []) (z := (zS I11 J12 tg)) rfl c20 ?_
    refine Runs.sN 1 (c' := (33, [.int a1, .int a2, .int a3], [.int 0], (zS I11 J12 tg))) rfl ?_
    subst h
    exact Runs.rt rfl
  · rw [if_neg c20] at h
    refine Runs.brF (P := v10 = 0) (a := 32) (b := 9) (L := [.int a1, .int a2, .int a3]) (S := []) (z := (zS I11 J12 tg)) rfl c20 ?_
    refine Runs.sN 3 (c' := (13, [.int a1, .int a2, .int a3], [.int 8, .int 0, .int a2], (zS I11 J12 tg))) rfl ?_
    obtain ⟨v13, I14, J15, c21, h⟩ := h
    refine Runs.cl (cm := 177) (as := [.int a2, .int 0, .int 8]) (rest := []) (r1 := ((some (.int v13)), (zS I14 J15 tg))) rfl (Nat.le_of_ble_eq_true rfl) c21 ?_
    refine Runs.as (c' := (16, [.int a1, .int a2, .int a3], [.int v13], (zS I14 J15 tg))) rfl ?_
    by_cases c22 : v13 = 0
    · rw [if_pos c22] at h
      refine Runs.brT (P := v13 = 0) (a := 32) (b := 19) (L := [.int a1, .int a2, .int a3]) (S := []) (z := (zS I14 J15 tg)) rfl c22 ?_
      refine Runs.sN 1 (c' := (33, [.int a1, .int a2, .int a3], [.int 0], (zS I14 J15 tg))) rfl ?_
      subst h
      exact Runs.rt rfl
    · rw [if_neg c22] at h
      refine Runs.brF (P := v13 = 0) (a := 32) (b := 19) (L := [.int a1, .int a2, .int a3]) (S := []) (z := (zS I14 J15 tg)) rfl c22 ?_
      refine Runs.sN 3 (c' := (22, [.int a1, .int a2, .int a3], [.int 3, .int 0, .int a3], (zS I14 J15 tg))) rfl ?_
      obtain ⟨v16, I17, J18, c23, h⟩ := h
      refine Runs.cl (cm := 177) (as := [.int a3, .int 0, .int 3]) (rest := []) (r1 := ((some (.int v16)), (zS I17 J18 tg))) rfl (Nat.le_of_ble_eq_true rfl) c23 ?_
      refine Runs.as (c' := (25, [.int a1, .int a2, .int a3], [.int v16], (zS I17 J18 tg))) rfl ?_
      by_cases c24 : v16 = 0
      · rw [if_pos c24] at h
        refine Runs.brT (P := v16 = 0) (a := 32) (b := 28) (L := [.int a1, .int a2, .int a3]) (S := []) (z := (zS I17 J18 tg)) rfl c24 ?_
        refine Runs.sN 1 (c' := (33, [.int a1, .int a2, .int a3], [.int 0], (zS I17 J18 tg))) rfl ?_
        subst h
        exact Runs.rt rfl
      · rw [if_neg c24] at h
        refine Runs.brF (P := v16 = 0) (a := 32) (b := 28) (L := [.int a1, .int a2, .int a3]) (S := []) (z := (zS I17 J18 tg)) rfl c24 ?_
        refine Runs.sN 2 (c' := (33, [.int a1, .int a2, .int a3], [.int 1], (zS I17 J18 tg))) rfl ?_
        subst h
        exact Runs.rt rfl
-- X12_has 
theorem sg_184 {L d : Nat} {xs : Nat → Int32} (I : Nat → Nat → Int32) (J : Nat → Nat → Int64) (tg : Option Nat) (a1 : Int32) (a2 : Int32) {r : Option Value × SS} (h : (¬ (((20 + (22 * a1)) + a2) < 0 ∨ 1200 ≤ ((20 + (22 * a1)) + a2).toNatClampNeg) ∧ r = (some (.int (I 94 (((20 + (22 * a1)) + a2).toNatClampNeg))), (zS I J tg)))) : Runs (GW L xs) d 184 (0, [.ref 93, .int a1, .int a2], [], (zS I J tg)) r := by
  refine Runs.sN 9 (c' := (13, [.ref 93, .int a1, .int a2], [.int ((20 + (22 * a1)) + a2), .ref 94], (zS I J tg))) rfl ?_
  obtain ⟨c1, h⟩ := h
  refine Runs.to (c' := (14, [.ref 93, .int a1, .int a2], [.int (I 94 (((20 + (22 * a1)) + a2).toNatClampNeg))], (zS I J tg))) (Runs.ild rfl (show (94 : Nat) < 114 by decide) rfl c1) ?_
  subst h
  exact Runs.rt rfl
-- X12_bitsOf 
theorem sg_185 {L d : Nat} {xs : Nat → Int32} (I : Nat → Nat → Int32) (J : Nat → Nat → Int64) (tg : Option Nat) (a1 : Int32) {r : Option Value × SS} (h : (Runs (GW L xs) d 185 (4, [.int a1, .int 0, .int 0], [], (zS I J tg)) r)) : Runs (GW L xs) d 185 (0, [.int a1, vU, vU], [], (zS I J tg)) r := by
  refine Runs.sN 4 (c' := (4, [.int a1, .int 0, .int 0], [], (zS I J tg))) rfl ?_
  exact h
theorem sg_185_4 {L d : Nat} {xs : Nat → Int32} (I : Nat → Nat → Int32) (J : Nat → Nat → Int64) (tg : Option Nat) (x0 : Int32) (x1 : Int32) (x2 : Int32) {r : Option Value × SS} (h : ((if 12 ≤ x2 then (r = (some (.int x1), (zS I J tg))) else (Runs (GW L xs) d 185 (4, [.int x0, .int (x1 + ((x0 >>> (x2 &&& 31)) &&& 1)), .int (x2 + 1)], [], (zS I J tg)) r)))) : Runs (GW L xs) d 185 (4, [.int x0, .int x1, .int x2], [], (zS I J tg)) r := by
  refine Runs.sN 2 (c' := (7, [.int x0, .int x1, .int x2], [.int 12, .int x2], (zS I J tg))) rfl ?_
  by_cases c1 : 12 ≤ x2
  · rw [if_pos c1] at h
    refine Runs.brT (P := 12 ≤ x2) (a := 24) (b := 10) (L := [.int x0, .int x1, .int x2]) (S := []) (z := (zS I J tg)) rfl c1 ?_
    refine Runs.sN 1 (c' := (25, [.int x0, .int x1, .int x2], [.int x1], (zS I J tg))) rfl ?_
    subst h
    exact Runs.rt rfl
  · rw [if_neg c1] at h
    refine Runs.brF (P := 12 ≤ x2) (a := 24) (b := 10) (L := [.int x0, .int x1, .int x2]) (S := []) (z := (zS I J tg)) rfl c1 ?_
    refine Runs.sN 10 (c' := (4, [.int x0, .int (x1 + ((x0 >>> (x2 &&& 31)) &&& 1)), .int (x2 + 1)], [], (zS I J tg))) rfl ?_
    exact h
