-- X11_stock 
theorem sg_136 {L d : Nat} {xs : Nat → Int32} (I : Nat → Nat → Int32) (J : Nat → Nat → Int64) (tg : Option Nat) (a1 : Int32) (a2 : Int32) (a3 : Int32) {r : Option Value × SS} (h : (∃ (v7 : Int32) (I8 : Nat → Nat → Int32), Runs (GW L xs) d 167 (0, [.int a1, .int a2, .int a3], [], (zS I J tg)) ((some (.int v7)), (zS I8 J tg)) ∧ (if v7 = 0 then (r = (some (.int (-1)), (zS I8 J tg))) else ((if (I8 18 2) < 10 then (∃ (v9 : Int32) (I10 : Nat → Nat → Int32), Runs (GW L xs) d 169 (0, [.int a1, .int a2, .int a3], [], (zS I8 J tg)) ((some (.int v9)), (zS I10 J tg)) ∧ ∃ (v11 : Int32) (I12 : Nat → Nat → Int32), Runs (GW L xs) d 173 (0, [.ref 19, .int 0, .int (I10 18 2), .int v9, vU], [], (zS I10 J tg)) ((some (.int v11)), (zS I12 J tg)) ∧ (if v11 = 0 then (¬ ((I12 18 2) < 0 ∨ 10 ≤ (I12 18 2).toNatClampNeg) ∧ r = (some (.int ((I12 18 2) + 1)), (zS (up2 (up2 I12 19 ((I12 18 2).toNatClampNeg) v9) 18 2 ((I12 18 2) + 1)) J tg))) else (r = (some (.int (-1)), (zS I12 J tg))))) else (r = (some (.int (-1)), (zS I8 J tg)))))))) : Runs (GW L xs) (d + 1) 136 (0, [.ref 0, .int a1, .int a2, .int a3, vU], [], (zS I J tg)) r := by
  refine Runs.sN 3 (c' := (3, [.ref 0, .int a1, .int a2, .int a3, vU], [.int a3, .int a2, .int a1], (zS I J tg))) rfl ?_
  obtain ⟨v7, I8, c13, h⟩ := h
  refine Runs.cl (cm := 167) (as := [.int a1, .int a2, .int a3]) (rest := []) (r1 := ((some (.int v7)), (zS I8 J tg))) rfl (Nat.le_of_ble_eq_true rfl) c13 ?_
  refine Runs.as (c' := (6, [.ref 0, .int a1, .int a2, .int a3, vU], [.int v7], (zS I8 J tg))) rfl ?_
  by_cases c14 : v7 = 0
  · rw [if_pos c14] at h
    refine Runs.brT (P := v7 = 0) (a := 21) (b := 9) (L := [.ref 0, .int a1, .int a2, .int a3, vU]) (S := []) (z := (zS I8 J tg)) rfl c14 ?_
    refine Runs.sN 1 (c' := (22, [.ref 0, .int a1, .int a2, .int a3, vU], [.int (-1)], (zS I8 J tg))) rfl ?_
    subst h
    exact Runs.rt rfl
  · rw [if_neg c14] at h
    refine Runs.brF (P := v7 = 0) (a := 21) (b := 9) (L := [.ref 0, .int a1, .int a2, .int a3, vU]) (S := []) (z := (zS I8 J tg)) rfl c14 ?_
    refine Runs.sN 4 (c' := (18, [.ref 0, .int a1, .int a2, .int a3, vU], [.int 10, .int (I8 18 2)], (zS I8 J tg))) rfl ?_
    by_cases c15 : (I8 18 2) < 10
    · rw [if_pos c15] at h
      refine Runs.brT (P := (I8 18 2) < 10) (a := 23) (b := 21) (L := [.ref 0, .int a1, .int a2, .int a3, vU]) (S := []) (z := (zS I8 J tg)) rfl c15 ?_
      refine Runs.sN 3 (c' := (26, [.ref 0, .int a1, .int a2, .int a3, vU], [.int a3, .int a2, .int a1], (zS I8 J tg))) rfl ?_
      obtain ⟨v9, I10, c16, h⟩ := h
      refine Runs.cl (cm := 169) (as := [.int a1, .int a2, .int a3]) (rest := []) (r1 := ((some (.int v9)), (zS I10 J tg))) rfl (Nat.le_of_ble_eq_true rfl) c16 ?_
      refine Runs.as (c' := (29, [.ref 0, .int a1, .int a2, .int a3, vU], [.int v9], (zS I10 J tg))) rfl ?_
      refine Runs.sN 9 (c' := (48, [.ref 0, .int a1, .int a2, .int a3, .int v9], [.int v9, .int (I10 18 2), .int 0, .ref 19], (zS I10 J tg))) rfl ?_
      obtain ⟨v11, I12, c17, h⟩ := h
      refine Runs.cl (cm := 173) (as := [.ref 19, .int 0, .int (I10 18 2), .int v9]) (rest := []) (r1 := ((some (.int v11)), (zS I12 J tg))) rfl (Nat.le_of_ble_eq_true rfl) c17 ?_
      refine Runs.as (c' := (51, [.ref 0, .int a1, .int a2, .int a3, .int v9], [.int v11], (zS I12 J tg))) rfl ?_
      by_cases c18 : v11 = 0
      · rw [if_pos c18] at h
        refine Runs.brT (P := v11 = 0) (a := 56) (b := 54) (L := [.ref 0, .int a1, .int a2, .int a3, .int v9]) (S := []) (z := (zS I12 J tg)) rfl c18 ?_
        refine Runs.sN 7 (c' := (72, [.ref 0, .int a1, .int a2, .int a3, .int v9], [.int v9, .int (I12 18 2), .ref 19], (zS I12 J tg))) rfl ?_
        obtain ⟨c19, h⟩ := h
        refine Runs.to (c' := (73, [.ref 0, .int a1, .int a2, .int a3, .int v9], [], (zS (up2 I12 19 ((I12 18 2).toNatClampNeg) v9) J tg))) (Runs.ist rfl (show (19 : Nat) < 114 by decide) rfl c19) ?_
        refine Runs.sN 10 (c' := (93, [.ref 0, .int a1, .int a2, .int a3, .int v9], [.int ((I12 18 2) + 1)], (zS (up2 (up2 I12 19 ((I12 18 2).toNatClampNeg) v9) 18 2 ((I12 18 2) + 1)) J tg))) rfl ?_
        subst h
        exact Runs.rt rfl
      · rw [if_neg c18] at h
        refine Runs.brF (P := v11 = 0) (a := 56) (b := 54) (L := [.ref 0, .int a1, .int a2, .int a3, .int v9]) (S := []) (z := (zS I12 J tg)) rfl c18 ?_
        refine Runs.sN 1 (c' := (55, [.ref 0, .int a1, .int a2, .int a3, .int v9], [.int (-1)], (zS I12 J tg))) rfl ?_
        subst h
        exact Runs.rt rfl
    · rw [if_neg c15] at h
      refine Runs.brF (P := (I8 18 2) < 10) (a := 23) (b := 21) (L := [.ref 0, .int a1, .int a2, .int a3, vU]) (S := []) (z := (zS I8 J tg)) rfl c15 ?_
      refine Runs.sN 1 (c' := (22, [.ref 0, .int a1, .int a2, .int a3, vU], [.int (-1)], (zS I8 J tg))) rfl ?_
      subst h
      exact Runs.rt rfl
-- X11_made 
theorem sg_137 {L d : Nat} {xs : Nat → Int32} (I : Nat → Nat → Int32) (J : Nat → Nat → Int64) (tg : Option Nat) (a1 : Int32) (a2 : Int32) (a3 : Int32) {r : Option Value × SS} (h : (∃ (v10 : Int32) (I11 : Nat → Nat → Int32), Runs (GW L xs) d 44 (0, [.ref 1, .int a1], [], (zS I J tg)) ((some (.int v10)), (zS I11 J tg)) ∧ (if v10 = 0 then (r = (some (.int (-1)), (zS I11 J tg))) else (∃ (v12 : Int32) (I13 : Nat → Nat → Int32), Runs (GW L xs) d 166 (0, [.int a2], [], (zS I11 J tg)) ((some (.int v12)), (zS I13 J tg)) ∧ (if v12 = 0 then (r = (some (.int (-1)), (zS I13 J tg))) else (∃ (v14 : Int32) (I15 : Nat → Nat → Int32), Runs (GW L xs) d 164 (0, [.int a3, .int 0, .int 2], [], (zS I13 J tg)) ((some (.int v14)), (zS I15 J tg)) ∧ (if v14 = 0 then (r = (some (.int (-1)), (zS I15 J tg))) else (∃ (I16 : Nat → Nat → Int32), Runs (GW L xs) d 1 (0, [.ref 79, .int a1, .int a2, vU], [], (zS I15 J tg)) (none, (zS I16 J tg)) ∧ (if (I16 79 10) = (-1) then (r = (some (.int (-1)), (zS I16 J tg))) else ((if a3 = 2 then (∃ (v17 : Int32) (I18 : Nat → Nat → Int32), Runs (GW L xs) d 7 (0, [.ref 79, .int a1, vU, vU], [], (zS I16 J tg)) ((some (.int v17)), (zS I18 J tg)) ∧ r = (some (.int v17), (zS I18 J tg))) else ((if a3 = 0 then (r = (some (.int (I16 79 10)), (zS I16 J tg))) else (r = (some (.int (I16 79 11)), (zS I16 J tg)))))))))))))))) : Runs (GW L xs) (d + 1) 137 (0, [.ref 0, .int a1, .int a2, .int a3], [], (zS I J tg)) r := by
  refine Runs.sN 3 (c' := (5, [.ref 0, .int a1, .int a2, .int a3], [.int a1, .ref 1], (zS I J tg))) rfl ?_
  obtain ⟨v10, I11, c19, h⟩ := h
  refine Runs.cl (cm := 44) (as := [.ref 1, .int a1]) (rest := []) (r1 := ((some (.int v10)), (zS I11 J tg))) rfl (Nat.le_of_ble_eq_true rfl) c19 ?_
  refine Runs.as (c' := (8, [.ref 0, .int a1, .int a2, .int a3], [.int v10], (zS I11 J tg))) rfl ?_
  by_cases c20 : v10 = 0
  · rw [if_pos c20] at h
    refine Runs.brT (P := v10 = 0) (a := 27) (b := 11) (L := [.ref 0, .int a1, .int a2, .int a3]) (S := []) (z := (zS I11 J tg)) rfl c20 ?_
    refine Runs.sN 1 (c' := (28, [.ref 0, .int a1, .int a2, .int a3], [.int (-1)], (zS I11 J tg))) rfl ?_
    subst h
    exact Runs.rt rfl
  · rw [if_neg c20] at h
    refine Runs.brF (P := v10 = 0) (a := 27) (b := 11) (L := [.ref 0, .int a1, .int a2, .int a3]) (S := []) (z := (zS I11 J tg)) rfl c20 ?_
    refine Runs.sN 1 (c' := (12, [.ref 0, .int a1, .int a2, .int a3], [.int a2], (zS I11 J tg))) rfl ?_
    obtain ⟨v12, I13, c21, h⟩ := h
    refine Runs.cl (cm := 166) (as := [.int a2]) (rest := []) (r1 := ((some (.int v12)), (zS I13 J tg))) rfl (Nat.le_of_ble_eq_true rfl) c21 ?_
    refine Runs.as (c' := (15, [.ref 0, .int a1, .int a2, .int a3], [.int v12], (zS I13 J tg))) rfl ?_
    by_cases c22 : v12 = 0
    · rw [if_pos c22] at h
      refine Runs.brT (P := v12 = 0) (a := 27) (b := 18) (L := [.ref 0, .int a1, .int a2, .int a3]) (S := []) (z := (zS I13 J tg)) rfl c22 ?_
      refine Runs.sN 1 (c' := (28, [.ref 0, .int a1, .int a2, .int a3], [.int (-1)], (zS I13 J tg))) rfl ?_
      subst h
      exact Runs.rt rfl
    · rw [if_neg c22] at h
      refine Runs.brF (P := v12 = 0) (a := 27) (b := 18) (L := [.ref 0, .int a1, .int a2, .int a3]) (S := []) (z := (zS I13 J tg)) rfl c22 ?_
      refine Runs.sN 3 (c' := (21, [.ref 0, .int a1, .int a2, .int a3], [.int 2, .int 0, .int a3], (zS I13 J tg))) rfl ?_
      obtain ⟨v14, I15, c23, h⟩ := h
      refine Runs.cl (cm := 164) (as := [.int a3, .int 0, .int 2]) (rest := []) (r1 := ((some (.int v14)), (zS I15 J tg))) rfl (Nat.le_of_ble_eq_true rfl) c23 ?_
      refine Runs.as (c' := (24, [.ref 0, .int a1, .int a2, .int a3], [.int v14], (zS I15 J tg))) rfl ?_
      by_cases c24 : v14 = 0
      · rw [if_pos c24] at h
        refine Runs.brT (P := v14 = 0) (a := 27) (b := 29) (L := [.ref 0, .int a1, .int a2, .int a3]) (S := []) (z := (zS I15 J tg)) rfl c24 ?_
        refine Runs.sN 1 (c' := (28, [.ref 0, .int a1, .int a2, .int a3], [.int (-1)], (zS I15 J tg))) rfl ?_
        subst h
        exact Runs.rt rfl
      · rw [if_neg c24] at h
        refine Runs.brF (P := v14 = 0) (a := 27) (b := 29) (L := [.ref 0, .int a1, .int a2, .int a3]) (S := []) (z := (zS I15 J tg)) rfl c24 ?_
        refine Runs.sN 4 (c' := (35, [.ref 0, .int a1, .int a2, .int a3], [.int a2, .int a1, .ref 79], (zS I15 J tg))) rfl ?_
        obtain ⟨I16, c25, h⟩ := h
        refine Runs.cl (cm := 1) (as := [.ref 79, .int a1, .int a2]) (rest := []) (r1 := (none, (zS I16 J tg))) rfl (Nat.le_of_ble_eq_true rfl) c25 ?_
        refine Runs.as (c' := (38, [.ref 0, .int a1, .int a2, .int a3], [], (zS I16 J tg))) rfl ?_
        refine Runs.sN 4 (c' := (46, [.ref 0, .int a1, .int a2, .int a3], [.int (-1), .int (I16 79 10)], (zS I16 J tg))) rfl ?_
        by_cases c26 : (I16 79 10) = (-1)
        · rw [if_pos c26] at h
          refine Runs.brT (P := (I16 79 10) = (-1)) (a := 49) (b := 51) (L := [.ref 0, .int a1, .int a2, .int a3]) (S := []) (z := (zS I16 J tg)) rfl c26 ?_
          refine Runs.sN 1 (c' := (50, [.ref 0, .int a1, .int a2, .int a3], [.int (-1)], (zS I16 J tg))) rfl ?_
          subst h
          exact Runs.rt rfl
        · rw [if_neg c26] at h
          refine Runs.brF (P := (I16 79 10) = (-1)) (a := 49) (b := 51) (L := [.ref 0, .int a1, .int a2, .int a3]) (S := []) (z := (zS I16 J tg)) rfl c26 ?_
          refine Runs.sN 2 (c' := (53, [.ref 0, .int a1, .int a2, .int a3], [.int 2, .int a3], (zS I16 J tg))) rfl ?_
          by_cases c27 : a3 = 2
          · rw [if_pos c27] at h
            refine Runs.brT (P := a3 = 2) (a := 56) (b := 65) (L := [.ref 0, .int a1, .int a2, .int a3]) (S := []) (z := (zS I16 J tg)) rfl c27 ?_
            refine Runs.sN 3 (c' := (61, [.ref 0, .int a1, .int a2, .int a3], [.int a1, .ref 79], (zS I16 J tg))) rfl ?_
            obtain ⟨v17, I18, c28, h⟩ := h
            refine Runs.cl (cm := 7) (as := [.ref 79, .int a1]) (rest := []) (r1 := ((some (.int v17)), (zS I18 J tg))) rfl (Nat.le_of_ble_eq_true rfl) c28 ?_
            refine Runs.as (c' := (64, [.ref 0, .int a1, .int a2, .int a3], [.int v17], (zS I18 J tg))) rfl ?_
            subst h
            exact Runs.rt rfl
          · rw [if_neg c27] at h
            refine Runs.brF (P := a3 = 2) (a := 56) (b := 65) (L := [.ref 0, .int a1, .int a2, .int a3]) (S := []) (z := (zS I16 J tg)) rfl c27 ?_
            refine Runs.sN 1 (c' := (66, [.ref 0, .int a1, .int a2, .int a3], [.int a3], (zS I16 J tg))) rfl ?_
            by_cases c29 : a3 = 0
            · rw [if_pos c29] at h
              refine Runs.brT (P := a3 = 0) (a := 69) (b := 79) (L := [.ref 0, .int a1, .int a2, .int a3]) (S := []) (z := (zS I16 J tg)) rfl c29 ?_
              refine Runs.sN 4 (c' := (86, [.ref 0, .int a1, .int a2, .int a3], [.int (I16 79 10)], (zS I16 J tg))) rfl ?_
              subst h
              exact Runs.rt rfl
            · rw [if_neg c29] at h
              refine Runs.brF (P := a3 = 0) (a := 69) (b := 79) (L := [.ref 0, .int a1, .int a2, .int a3]) (S := []) (z := (zS I16 J tg)) rfl c29 ?_
              refine Runs.sN 3 (c' := (86, [.ref 0, .int a1, .int a2, .int a3], [.int (I16 79 11)], (zS I16 J tg))) rfl ?_
              subst h
              exact Runs.rt rfl
-- X11_least 
theorem sg_138 {L d : Nat} {xs : Nat → Int32} (I : Nat → Nat → Int32) (J : Nat → Nat → Int64) (tg : Option Nat) (a1 : Int32) (a2 : Int32) {r : Option Value × SS} (h : (∃ (v8 : Int32) (I9 : Nat → Nat → Int32), Runs (GW L xs) d 47 (0, [.ref 1, .int a1], [], (zS I J tg)) ((some (.int v8)), (zS I9 J tg)) ∧ (if v8 = 0 then (r = (some (.int (-1)), (zS I9 J tg))) else (∃ (v10 : Int32) (I11 : Nat → Nat → Int32), Runs (GW L xs) d 164 (0, [.int a2, .int 0, .int 2], [], (zS I9 J tg)) ((some (.int v10)), (zS I11 J tg)) ∧ (if v10 = 0 then (r = (some (.int (-1)), (zS I11 J tg))) else (∃ (v12 : Int32) (I13 : Nat → Nat → Int32), Runs (GW L xs) d 300 (0, [.int a1], [], (zS I11 J tg)) ((some (.int v12)), (zS I13 J tg)) ∧ (if 2 ≤ v12 then (∃ (I14 : Nat → Nat → Int32), Runs (GW L xs) d 14 (0, [.ref 83, .int a1, vU, vU, vU], [], (zS I13 J tg)) (none, (zS I14 J tg)) ∧ (if a2 = 0 then (r = (some (.int (I14 83 6)), (zS I14 J tg))) else ((if a2 = 1 then (r = (some (.int (I14 83 7)), (zS I14 J tg))) else (r = (some (.int (I14 83 8)), (zS I14 J tg))))))) else (r = (some (.int (-1)), (zS I13 J tg)))))))))) : Runs (GW L xs) (d + 1) 138 (0, [.ref 0, .int a1, .int a2], [], (zS I J tg)) r := by
  refine Runs.sN 3 (c' := (5, [.ref 0, .int a1, .int a2], [.int a1, .ref 1], (zS I J tg))) rfl ?_
  obtain ⟨v8, I9, c15, h⟩ := h
  refine Runs.cl (cm := 47) (as := [.ref 1, .int a1]) (rest := []) (r1 := ((some (.int v8)), (zS I9 J tg))) rfl (Nat.le_of_ble_eq_true rfl) c15 ?_
  refine Runs.as (c' := (8, [.ref 0, .int a1, .int a2], [.int v8], (zS I9 J tg))) rfl ?_
  by_cases c16 : v8 = 0
  · rw [if_pos c16] at h
    refine Runs.brT (P := v8 = 0) (a := 28) (b := 11) (L := [.ref 0, .int a1, .int a2]) (S := []) (z := (zS I9 J tg)) rfl c16 ?_
    refine Runs.sN 1 (c' := (29, [.ref 0, .int a1, .int a2], [.int (-1)], (zS I9 J tg))) rfl ?_
    subst h
    exact Runs.rt rfl
  · rw [if_neg c16] at h
    refine Runs.brF (P := v8 = 0) (a := 28) (b := 11) (L := [.ref 0, .int a1, .int a2]) (S := []) (z := (zS I9 J tg)) rfl c16 ?_
    refine Runs.sN 3 (c' := (14, [.ref 0, .int a1, .int a2], [.int 2, .int 0, .int a2], (zS I9 J tg))) rfl ?_
    obtain ⟨v10, I11, c17, h⟩ := h
    refine Runs.cl (cm := 164) (as := [.int a2, .int 0, .int 2]) (rest := []) (r1 := ((some (.int v10)), (zS I11 J tg))) rfl (Nat.le_of_ble_eq_true rfl) c17 ?_
    refine Runs.as (c' := (17, [.ref 0, .int a1, .int a2], [.int v10], (zS I11 J tg))) rfl ?_
    by_cases c18 : v10 = 0
    · rw [if_pos c18] at h
      refine Runs.brT (P := v10 = 0) (a := 28) (b := 20) (L := [.ref 0, .int a1, .int a2]) (S := []) (z := (zS I11 J tg)) rfl c18 ?_
      refine Runs.sN 1 (c' := (29, [.ref 0, .int a1, .int a2], [.int (-1)], (zS I11 J tg))) rfl ?_
      subst h
      exact Runs.rt rfl
    · rw [if_neg c18] at h
      refine Runs.brF (P := v10 = 0) (a := 28) (b := 20) (L := [.ref 0, .int a1, .int a2]) (S := []) (z := (zS I11 J tg)) rfl c18 ?_
      refine Runs.sN 1 (c' := (21, [.ref 0, .int a1, .int a2], [.int a1], (zS I11 J tg))) rfl ?_
      obtain ⟨v12, I13, c19, h⟩ := h
      refine Runs.cl (cm := 300) (as := [.int a1]) (rest := []) (r1 := ((some (.int v12)), (zS I13 J tg))) rfl (Nat.le_of_ble_eq_true rfl) c19 ?_
      refine Runs.as (c' := (24, [.ref 0, .int a1, .int a2], [.int v12], (zS I13 J tg))) rfl ?_
      refine Runs.sN 1 (c' := (25, [.ref 0, .int a1, .int a2], [.int 2, .int v12], (zS I13 J tg))) rfl ?_
      by_cases c20 : 2 ≤ v12
      · rw [if_pos c20] at h
        refine Runs.brT (P := 2 ≤ v12) (a := 30) (b := 28) (L := [.ref 0, .int a1, .int a2]) (S := []) (z := (zS I13 J tg)) rfl c20 ?_
        refine Runs.sN 3 (c' := (35, [.ref 0, .int a1, .int a2], [.int a1, .ref 83], (zS I13 J tg))) rfl ?_
        obtain ⟨I14, c21, h⟩ := h
        refine Runs.cl (cm := 14) (as := [.ref 83, .int a1]) (rest := []) (r1 := (none, (zS I14 J tg))) rfl (Nat.le_of_ble_eq_true rfl) c21 ?_
        refine Runs.as (c' := (38, [.ref 0, .int a1, .int a2], [], (zS I14 J tg))) rfl ?_
        refine Runs.sN 1 (c' := (39, [.ref 0, .int a1, .int a2], [.int a2], (zS I14 J tg))) rfl ?_
        by_cases c22 : a2 = 0
        · rw [if_pos c22] at h
          refine Runs.brT (P := a2 = 0) (a := 42) (b := 50) (L := [.ref 0, .int a1, .int a2]) (S := []) (z := (zS I14 J tg)) rfl c22 ?_
          refine Runs.sN 3 (c' := (49, [.ref 0, .int a1, .int a2], [.int (I14 83 6)], (zS I14 J tg))) rfl ?_
          subst h
          exact Runs.rt rfl
        · rw [if_neg c22] at h
          refine Runs.brF (P := a2 = 0) (a := 42) (b := 50) (L := [.ref 0, .int a1, .int a2]) (S := []) (z := (zS I14 J tg)) rfl c22 ?_
          refine Runs.sN 2 (c' := (52, [.ref 0, .int a1, .int a2], [.int 1, .int a2], (zS I14 J tg))) rfl ?_
          by_cases c23 : a2 = 1
          · rw [if_pos c23] at h
            refine Runs.brT (P := a2 = 1) (a := 55) (b := 65) (L := [.ref 0, .int a1, .int a2]) (S := []) (z := (zS I14 J tg)) rfl c23 ?_
            refine Runs.sN 4 (c' := (72, [.ref 0, .int a1, .int a2], [.int (I14 83 7)], (zS I14 J tg))) rfl ?_
            subst h
            exact Runs.rt rfl
          · rw [if_neg c23] at h
            refine Runs.brF (P := a2 = 1) (a := 55) (b := 65) (L := [.ref 0, .int a1, .int a2]) (S := []) (z := (zS I14 J tg)) rfl c23 ?_
            refine Runs.sN 3 (c' := (72, [.ref 0, .int a1, .int a2], [.int (I14 83 8)], (zS I14 J tg))) rfl ?_
            subst h
            exact Runs.rt rfl
      · rw [if_neg c20] at h
        refine Runs.brF (P := 2 ≤ v12) (a := 30) (b := 28) (L := [.ref 0, .int a1, .int a2]) (S := []) (z := (zS I13 J tg)) rfl c20 ?_
        refine Runs.sN 1 (c' := (29, [.ref 0, .int a1, .int a2], [.int (-1)], (zS I13 J tg))) rfl ?_
        subst h
        exact Runs.rt rfl
-- X11_candidate 
theorem sg_139 {L d : Nat} {xs : Nat → Int32} (I : Nat → Nat → Int32) (J : Nat → Nat → Int64) (tg : Option Nat) (a1 : Int32) (a2 : Int32) {r : Option Value × SS} (h : (∃ (v7 : Int32) (I8 : Nat → Nat → Int32), Runs (GW L xs) d 164 (0, [.int a1, .int 0, .int 5], [], (zS I J tg)) ((some (.int v7)), (zS I8 J tg)) ∧ (if v7 = 0 then (r = (some (.int (-1)), (zS I8 J tg))) else (∃ (v9 : Int32) (I10 : Nat → Nat → Int32), Runs (GW L xs) d 44 (0, [.ref 1, .int a2], [], (zS I8 J tg)) ((some (.int v9)), (zS I10 J tg)) ∧ (if v9 = 0 then (r = (some (.int (-1)), (zS I10 J tg))) else (¬ (a1 < 0 ∨ 6 ≤ (a1).toNatClampNeg) ∧ (if 4 ≤ (I10 21 ((a1).toNatClampNeg)) then (r = (some (.int (-1)), (zS I10 J tg))) else (∃ (v11 : Int32) (I12 : Nat → Nat → Int32), Runs (GW L xs) d 173 (0, [.ref 20, .int (a1 * 4), .int (I10 21 ((a1).toNatClampNeg)), .int a2, vU], [], (zS I10 J tg)) ((some (.int v11)), (zS I12 J tg)) ∧ (if v11 = 0 then (¬ (((a1 * 4) + (I10 21 ((a1).toNatClampNeg))) < 0 ∨ 24 ≤ ((a1 * 4) + (I10 21 ((a1).toNatClampNeg))).toNatClampNeg) ∧ ¬ (a1 < 0 ∨ 6 ≤ (a1).toNatClampNeg) ∧ r = (some (.int ((I10 21 ((a1).toNatClampNeg)) + 1)), (zS (up2 (up2 I12 20 (((a1 * 4) + (I10 21 ((a1).toNatClampNeg))).toNatClampNeg) a2) 21 ((a1).toNatClampNeg) ((I10 21 ((a1).toNatClampNeg)) + 1)) J tg))) else (r = (some (.int (-1)), (zS I12 J tg)))))))))))) : Runs (GW L xs) (d + 1) 139 (0, [.ref 0, .int a1, .int a2, vU], [], (zS I J tg)) r := by
  refine Runs.sN 3 (c' := (3, [.ref 0, .int a1, .int a2, vU], [.int 5, .int 0, .int a1], (zS I J tg))) rfl ?_
  obtain ⟨v7, I8, c13, h⟩ := h
  refine Runs.cl (cm := 164) (as := [.int a1, .int 0, .int 5]) (rest := []) (r1 := ((some (.int v7)), (zS I8 J tg))) rfl (Nat.le_of_ble_eq_true rfl) c13 ?_
  refine Runs.as (c' := (6, [.ref 0, .int a1, .int a2, vU], [.int v7], (zS I8 J tg))) rfl ?_
  by_cases c14 : v7 = 0
  · rw [if_pos c14] at h
    refine Runs.brT (P := v7 = 0) (a := 20) (b := 9) (L := [.ref 0, .int a1, .int a2, vU]) (S := []) (z := (zS I8 J tg)) rfl c14 ?_
    refine Runs.sN 1 (c' := (21, [.ref 0, .int a1, .int a2, vU], [.int (-1)], (zS I8 J tg))) rfl ?_
    subst h
    exact Runs.rt rfl
  · rw [if_neg c14] at h
    refine Runs.brF (P := v7 = 0) (a := 20) (b := 9) (L := [.ref 0, .int a1, .int a2, vU]) (S := []) (z := (zS I8 J tg)) rfl c14 ?_
    refine Runs.sN 3 (c' := (14, [.ref 0, .int a1, .int a2, vU], [.int a2, .ref 1], (zS I8 J tg))) rfl ?_
    obtain ⟨v9, I10, c15, h⟩ := h
    refine Runs.cl (cm := 44) (as := [.ref 1, .int a2]) (rest := []) (r1 := ((some (.int v9)), (zS I10 J tg))) rfl (Nat.le_of_ble_eq_true rfl) c15 ?_
    refine Runs.as (c' := (17, [.ref 0, .int a1, .int a2, vU], [.int v9], (zS I10 J tg))) rfl ?_
    by_cases c16 : v9 = 0
    · rw [if_pos c16] at h
      refine Runs.brT (P := v9 = 0) (a := 20) (b := 22) (L := [.ref 0, .int a1, .int a2, vU]) (S := []) (z := (zS I10 J tg)) rfl c16 ?_
      refine Runs.sN 1 (c' := (21, [.ref 0, .int a1, .int a2, vU], [.int (-1)], (zS I10 J tg))) rfl ?_
      subst h
      exact Runs.rt rfl
    · rw [if_neg c16] at h
      refine Runs.brF (P := v9 = 0) (a := 20) (b := 22) (L := [.ref 0, .int a1, .int a2, vU]) (S := []) (z := (zS I10 J tg)) rfl c16 ?_
      refine Runs.sN 4 (c' := (30, [.ref 0, .int a1, .int a2, vU], [.int a1, .ref 21], (zS I10 J tg))) rfl ?_
      obtain ⟨c17, h⟩ := h
      refine Runs.to (c' := (31, [.ref 0, .int a1, .int a2, vU], [.int (I10 21 ((a1).toNatClampNeg))], (zS I10 J tg))) (Runs.ild rfl (show (21 : Nat) < 114 by decide) rfl c17) ?_
      refine Runs.sN 3 (c' := (34, [.ref 0, .int a1, .int a2, .int (I10 21 ((a1).toNatClampNeg))], [.int 4, .int (I10 21 ((a1).toNatClampNeg))], (zS I10 J tg))) rfl ?_
      by_cases c18 : 4 ≤ (I10 21 ((a1).toNatClampNeg))
      · rw [if_pos c18] at h
        refine Runs.brT (P := 4 ≤ (I10 21 ((a1).toNatClampNeg))) (a := 55) (b := 37) (L := [.ref 0, .int a1, .int a2, .int (I10 21 ((a1).toNatClampNeg))]) (S := []) (z := (zS I10 J tg)) rfl c18 ?_
        refine Runs.sN 1 (c' := (56, [.ref 0, .int a1, .int a2, .int (I10 21 ((a1).toNatClampNeg))], [.int (-1)], (zS I10 J tg))) rfl ?_
        subst h
        exact Runs.rt rfl
      · rw [if_neg c18] at h
        refine Runs.brF (P := 4 ≤ (I10 21 ((a1).toNatClampNeg))) (a := 55) (b := 37) (L := [.ref 0, .int a1, .int a2, .int (I10 21 ((a1).toNatClampNeg))]) (S := []) (z := (zS I10 J tg)) rfl c18 ?_
        refine Runs.sN 8 (c' := (49, [.ref 0, .int a1, .int a2, .int (I10 21 ((a1).toNatClampNeg))], [.int a2, .int (I10 21 ((a1).toNatClampNeg)), .int (a1 * 4), .ref 20], (zS I10 J tg))) rfl ?_
        obtain ⟨v11, I12, c19, h⟩ := h
        refine Runs.cl (cm := 173) (as := [.ref 20, .int (a1 * 4), .int (I10 21 ((a1).toNatClampNeg)), .int a2]) (rest := []) (r1 := ((some (.int v11)), (zS I12 J tg))) rfl (Nat.le_of_ble_eq_true rfl) c19 ?_
        refine Runs.as (c' := (52, [.ref 0, .int a1, .int a2, .int (I10 21 ((a1).toNatClampNeg))], [.int v11], (zS I12 J tg))) rfl ?_
        by_cases c20 : v11 = 0
        · rw [if_pos c20] at h
          refine Runs.brT (P := v11 = 0) (a := 57) (b := 55) (L := [.ref 0, .int a1, .int a2, .int (I10 21 ((a1).toNatClampNeg))]) (S := []) (z := (zS I12 J tg)) rfl c20 ?_
          refine Runs.sN 9 (c' := (70, [.ref 0, .int a1, .int a2, .int (I10 21 ((a1).toNatClampNeg))], [.int a2, .int ((a1 * 4) + (I10 21 ((a1).toNatClampNeg))), .ref 20], (zS I12 J tg))) rfl ?_
          obtain ⟨c21, h⟩ := h
          refine Runs.to (c' := (71, [.ref 0, .int a1, .int a2, .int (I10 21 ((a1).toNatClampNeg))], [], (zS (up2 I12 20 (((a1 * 4) + (I10 21 ((a1).toNatClampNeg))).toNatClampNeg) a2) J tg))) (Runs.ist rfl (show (20 : Nat) < 114 by decide) rfl c21) ?_
          refine Runs.sN 7 (c' := (82, [.ref 0, .int a1, .int a2, .int (I10 21 ((a1).toNatClampNeg))], [.int ((I10 21 ((a1).toNatClampNeg)) + 1), .int a1, .ref 21], (zS (up2 I12 20 (((a1 * 4) + (I10 21 ((a1).toNatClampNeg))).toNatClampNeg) a2) J tg))) rfl ?_
          obtain ⟨c22, h⟩ := h
          refine Runs.to (c' := (83, [.ref 0, .int a1, .int a2, .int (I10 21 ((a1).toNatClampNeg))], [], (zS (up2 (up2 I12 20 (((a1 * 4) + (I10 21 ((a1).toNatClampNeg))).toNatClampNeg) a2) 21 ((a1).toNatClampNeg) ((I10 21 ((a1).toNatClampNeg)) + 1)) J tg))) (Runs.ist rfl (show (21 : Nat) < 114 by decide) rfl c22) ?_
          refine Runs.sN 3 (c' := (86, [.ref 0, .int a1, .int a2, .int (I10 21 ((a1).toNatClampNeg))], [.int ((I10 21 ((a1).toNatClampNeg)) + 1)], (zS (up2 (up2 I12 20 (((a1 * 4) + (I10 21 ((a1).toNatClampNeg))).toNatClampNeg) a2) 21 ((a1).toNatClampNeg) ((I10 21 ((a1).toNatClampNeg)) + 1)) J tg))) rfl ?_
          subst h
          exact Runs.rt rfl
        · rw [if_neg c20] at h
          refine Runs.brF (P := v11 = 0) (a := 57) (b := 55) (L := [.ref 0, .int a1, .int a2, .int (I10 21 ((a1).toNatClampNeg))]) (S := []) (z := (zS I12 J tg)) rfl c20 ?_
          refine Runs.sN 1 (c' := (56, [.ref 0, .int a1, .int a2, .int (I10 21 ((a1).toNatClampNeg))], [.int (-1)], (zS I12 J tg))) rfl ?_
          subst h
          exact Runs.rt rfl
-- X11_choice 
theorem sg_140 {L d : Nat} {xs : Nat → Int32} (I : Nat → Nat → Int32) (J : Nat → Nat → Int64) (tg : Option Nat) (a1 : Int32) {r : Option Value × SS} (h : (∃ (v7 : Int32) (I8 : Nat → Nat → Int32), Runs (GW L xs) d 164 (0, [.int a1, .int (-1), .int 5], [], (zS I J tg)) ((some (.int v7)), (zS I8 J tg)) ∧ (if v7 = 0 then (r = (some (.int (-1)), (zS I8 J tg))) else (∃ (v9 : Int32) (I10 : Nat → Nat → Int32), Runs (GW L xs) d 41 (0, [.ref 18, vU, vU], [], (zS I8 J tg)) ((some (.int v9)), (zS I10 J tg)) ∧ (if 2 ≤ v9 then ((if a1 = (-1) then (∃ (I11 : Nat → Nat → Int32), Runs (GW L xs) d 15 (0, [.ref 83], [], (zS I10 J tg)) (none, (zS I11 J tg)) ∧ (if a1 = (-1) then (r = (some (.int (I11 83 4)), (zS I11 J tg))) else (¬ (a1 < 0 ∨ 6 ≤ (a1).toNatClampNeg) ∧ r = (some (.int (I11 85 ((a1).toNatClampNeg))), (zS I11 J tg))))) else (¬ (a1 < 0 ∨ 6 ≤ (a1).toNatClampNeg) ∧ (if (I10 21 ((a1).toNatClampNeg)) = 0 then (r = (some (.int (-1)), (zS I10 J tg))) else (∃ (I12 : Nat → Nat → Int32), Runs (GW L xs) d 15 (0, [.ref 83], [], (zS I10 J tg)) (none, (zS I12 J tg)) ∧ (if a1 = (-1) then (r = (some (.int (I12 83 4)), (zS I12 J tg))) else (¬ (a1 < 0 ∨ 6 ≤ (a1).toNatClampNeg) ∧ r = (some (.int (I12 85 ((a1).toNatClampNeg))), (zS I12 J tg))))))))) else (r = (some (.int (-1)), (zS I10 J tg)))))))) : Runs (GW L xs) (d + 1) 140 (0, [.ref 0, .int a1], [], (zS I J tg)) r := by
  refine Runs.sN 3 (c' := (3, [.ref 0, .int a1], [.int 5, .int (-1), .int a1], (zS I J tg))) rfl ?_
  obtain ⟨v7, I8, c13, h⟩ := h
  refine Runs.cl (cm := 164) (as := [.int a1, .int (-1), .int 5]) (rest := []) (r1 := ((some (.int v7)), (zS I8 J tg))) rfl (Nat.le_of_ble_eq_true rfl) c13 ?_
  refine Runs.as (c' := (6, [.ref 0, .int a1], [.int v7], (zS I8 J tg))) rfl ?_
  by_cases c14 : v7 = 0
  · rw [if_pos c14] at h
    refine Runs.brT (P := v7 = 0) (a := 20) (b := 9) (L := [.ref 0, .int a1]) (S := []) (z := (zS I8 J tg)) rfl c14 ?_
    refine Runs.sN 1 (c' := (21, [.ref 0, .int a1], [.int (-1)], (zS I8 J tg))) rfl ?_
    subst h
    exact Runs.rt rfl
  · rw [if_neg c14] at h
    refine Runs.brF (P := v7 = 0) (a := 20) (b := 9) (L := [.ref 0, .int a1]) (S := []) (z := (zS I8 J tg)) rfl c14 ?_
    refine Runs.sN 2 (c' := (13, [.ref 0, .int a1], [.ref 18], (zS I8 J tg))) rfl ?_
    obtain ⟨v9, I10, c15, h⟩ := h
    refine Runs.cl (cm := 41) (as := [.ref 18]) (rest := []) (r1 := ((some (.int v9)), (zS I10 J tg))) rfl (Nat.le_of_ble_eq_true rfl) c15 ?_
    refine Runs.as (c' := (16, [.ref 0, .int a1], [.int v9], (zS I10 J tg))) rfl ?_
    refine Runs.sN 1 (c' := (17, [.ref 0, .int a1], [.int 2, .int v9], (zS I10 J tg))) rfl ?_
    by_cases c16 : 2 ≤ v9
    · rw [if_pos c16] at h
      refine Runs.brT (P := 2 ≤ v9) (a := 22) (b := 20) (L := [.ref 0, .int a1]) (S := []) (z := (zS I10 J tg)) rfl c16 ?_
      refine Runs.sN 2 (c' := (24, [.ref 0, .int a1], [.int (-1), .int a1], (zS I10 J tg))) rfl ?_
      by_cases c17 : a1 = (-1)
      · rw [if_pos c17] at h
        refine Runs.brT (P := a1 = (-1)) (a := 41) (b := 27) (L := [.ref 0, .int a1]) (S := []) (z := (zS I10 J tg)) rfl c17 ?_
        refine Runs.sN 2 (c' := (45, [.ref 0, .int a1], [.ref 83], (zS I10 J tg))) rfl ?_
        obtain ⟨I11, c18, h⟩ := h
        refine Runs.cl (cm := 15) (as := [.ref 83]) (rest := []) (r1 := (none, (zS I11 J tg))) rfl (Nat.le_of_ble_eq_true rfl) c18 ?_
        refine Runs.as (c' := (48, [.ref 0, .int a1], [], (zS I11 J tg))) rfl ?_
        refine Runs.sN 2 (c' := (50, [.ref 0, .int a1], [.int (-1), .int a1], (zS I11 J tg))) rfl ?_
        by_cases c19 : a1 = (-1)
        · rw [if_pos c19] at h
          refine Runs.brT (P := a1 = (-1)) (a := 53) (b := 63) (L := [.ref 0, .int a1]) (S := []) (z := (zS I11 J tg)) rfl c19 ?_
          refine Runs.sN 4 (c' := (72, [.ref 0, .int a1], [.int (I11 83 4)], (zS I11 J tg))) rfl ?_
          subst h
          exact Runs.rt rfl
        · rw [if_neg c19] at h
          refine Runs.brF (P := a1 = (-1)) (a := 53) (b := 63) (L := [.ref 0, .int a1]) (S := []) (z := (zS I11 J tg)) rfl c19 ?_
          refine Runs.sN 4 (c' := (71, [.ref 0, .int a1], [.int a1, .ref 85], (zS I11 J tg))) rfl ?_
          obtain ⟨c20, h⟩ := h
          refine Runs.to (c' := (72, [.ref 0, .int a1], [.int (I11 85 ((a1).toNatClampNeg))], (zS I11 J tg))) (Runs.ild rfl (show (85 : Nat) < 114 by decide) rfl c20) ?_
          subst h
          exact Runs.rt rfl
      · rw [if_neg c17] at h
        refine Runs.brF (P := a1 = (-1)) (a := 41) (b := 27) (L := [.ref 0, .int a1]) (S := []) (z := (zS I10 J tg)) rfl c17 ?_
        refine Runs.sN 4 (c' := (35, [.ref 0, .int a1], [.int a1, .ref 21], (zS I10 J tg))) rfl ?_
        obtain ⟨c21, h⟩ := h
        refine Runs.to (c' := (36, [.ref 0, .int a1], [.int (I10 21 ((a1).toNatClampNeg))], (zS I10 J tg))) (Runs.ild rfl (show (21 : Nat) < 114 by decide) rfl c21) ?_
        by_cases c22 : (I10 21 ((a1).toNatClampNeg)) = 0
        · rw [if_pos c22] at h
          refine Runs.brT (P := (I10 21 ((a1).toNatClampNeg)) = 0) (a := 39) (b := 41) (L := [.ref 0, .int a1]) (S := []) (z := (zS I10 J tg)) rfl c22 ?_
          refine Runs.sN 1 (c' := (40, [.ref 0, .int a1], [.int (-1)], (zS I10 J tg))) rfl ?_
          subst h
          exact Runs.rt rfl
        · rw [if_neg c22] at h
          refine Runs.brF (P := (I10 21 ((a1).toNatClampNeg)) = 0) (a := 39) (b := 41) (L := [.ref 0, .int a1]) (S := []) (z := (zS I10 J tg)) rfl c22 ?_
          refine Runs.sN 2 (c' := (45, [.ref 0, .int a1], [.ref 83], (zS I10 J tg))) rfl ?_
          obtain ⟨I12, c23, h⟩ := h
          refine Runs.cl (cm := 15) (as := [.ref 83]) (rest := []) (r1 := (none, (zS I12 J tg))) rfl (Nat.le_of_ble_eq_true rfl) c23 ?_
          refine Runs.as (c' := (48, [.ref 0, .int a1], [], (zS I12 J tg))) rfl ?_
          refine Runs.sN 2 (c' := (50, [.ref 0, .int a1], [.int (-1), .int a1], (zS I12 J tg))) rfl ?_
          by_cases c24 : a1 = (-1)
          · rw [if_pos c24] at h
            refine Runs.brT (P := a1 = (-1)) (a := 53) (b := 63) (L := [.ref 0, .int a1]) (S := []) (z := (zS I12 J tg)) rfl c24 ?_
            refine Runs.sN 4 (c' := (72, [.ref 0, .int a1], [.int (I12 83 4)], (zS I12 J tg))) rfl ?_
            subst h
            exact Runs.rt rfl
          · rw [if_neg c24] at h
            refine Runs.brF (P := a1 = (-1)) (a := 53) (b := 63) (L := [.ref 0, .int a1]) (S := []) (z := (zS I12 J tg)) rfl c24 ?_
            refine Runs.sN 4 (c' := (71, [.ref 0, .int a1], [.int a1, .ref 85], (zS I12 J tg))) rfl ?_
            obtain ⟨c25, h⟩ := h
            refine Runs.to (c' := (72, [.ref 0, .int a1], [.int (I12 85 ((a1).toNatClampNeg))], (zS I12 J tg))) (Runs.ild rfl (show (85 : Nat) < 114 by decide) rfl c25) ?_
            subst h
            exact Runs.rt rfl
    · rw [if_neg c16] at h
      refine Runs.brF (P := 2 ≤ v9) (a := 22) (b := 20) (L := [.ref 0, .int a1]) (S := []) (z := (zS I10 J tg)) rfl c16 ?_
      refine Runs.sN 1 (c' := (21, [.ref 0, .int a1], [.int (-1)], (zS I10 J tg))) rfl ?_
      subst h
      exact Runs.rt rfl
-- X11_bars 
theorem sg_141 {L d : Nat} {xs : Nat → Int32} (I : Nat → Nat → Int32) (J : Nat → Nat → Int64) (tg : Option Nat) (a1 : Int32) {r : Option Value × SS} (h : (∃ (v5 : Int32) (I6 : Nat → Nat → Int32), Runs (GW L xs) d 164 (0, [.int a1, .int 1, .int 999], [], (zS I J tg)) ((some (.int v5)), (zS I6 J tg)) ∧ (if v5 = 0 then (r = (some (.int (-1)), (zS I6 J tg))) else (∃ (v7 : Int32) (I8 : Nat → Nat → Int32), Runs (GW L xs) d 18 (0, [.ref 83, .int a1], [], (zS I6 J tg)) ((some (.int v7)), (zS I8 J tg)) ∧ r = (some (.int v7), (zS I8 J tg)))))) : Runs (GW L xs) (d + 1) 141 (0, [.ref 0, .int a1], [], (zS I J tg)) r := by
  refine Runs.sN 3 (c' := (5, [.ref 0, .int a1], [.int 999, .int 1, .int a1], (zS I J tg))) rfl ?_
  obtain ⟨v5, I6, c9, h⟩ := h
  refine Runs.cl (cm := 164) (as := [.int a1, .int 1, .int 999]) (rest := []) (r1 := ((some (.int v5)), (zS I6 J tg))) rfl (Nat.le_of_ble_eq_true rfl) c9 ?_
  refine Runs.as (c' := (8, [.ref 0, .int a1], [.int v5], (zS I6 J tg))) rfl ?_
  by_cases c10 : v5 = 0
  · rw [if_pos c10] at h
    refine Runs.brT (P := v5 = 0) (a := 22) (b := 11) (L := [.ref 0, .int a1]) (S := []) (z := (zS I6 J tg)) rfl c10 ?_
    refine Runs.sN 1 (c' := (23, [.ref 0, .int a1], [.int (-1)], (zS I6 J tg))) rfl ?_
    subst h
    exact Runs.rt rfl
  · rw [if_neg c10] at h
    refine Runs.brF (P := v5 = 0) (a := 22) (b := 11) (L := [.ref 0, .int a1]) (S := []) (z := (zS I6 J tg)) rfl c10 ?_
    refine Runs.sN 3 (c' := (16, [.ref 0, .int a1], [.int a1, .ref 83], (zS I6 J tg))) rfl ?_
    obtain ⟨v7, I8, c11, h⟩ := h
    refine Runs.cl (cm := 18) (as := [.ref 83, .int a1]) (rest := []) (r1 := ((some (.int v7)), (zS I8 J tg))) rfl (Nat.le_of_ble_eq_true rfl) c11 ?_
    refine Runs.as (c' := (19, [.ref 0, .int a1], [.int v7], (zS I8 J tg))) rfl ?_
    refine Runs.sN 1 (c' := (23, [.ref 0, .int a1], [.int v7], (zS I8 J tg))) rfl ?_
    subst h
    exact Runs.rt rfl
-- X11_group 
theorem sg_142 {L d : Nat} {xs : Nat → Int32} (I : Nat → Nat → Int32) (J : Nat → Nat → Int64) (tg : Option Nat) (a1 : Int32) (a2 : Int32) {r : Option Value × SS} (h : (∃ (v5 : Int32) (I6 : Nat → Nat → Int32), Runs (GW L xs) d 45 (0, [.ref 1, .int a1], [], (zS I J tg)) ((some (.int v5)), (zS I6 J tg)) ∧ (if v5 = 0 then (r = (some (.int 0), (zS I6 J tg))) else (∃ (v7 : Int32) (I8 : Nat → Nat → Int32), Runs (GW L xs) d 164 (0, [.int a2, .int 0, .int 5], [], (zS I6 J tg)) ((some (.int v7)), (zS I8 J tg)) ∧ (if v7 = 0 then (r = (some (.int 0), (zS I8 J tg))) else (¬ ((a1 - 12) < 0 ∨ 12 ≤ (a1 - 12).toNatClampNeg) ∧ r = (some (.int 1), (zS (up2 I8 11 ((a1 - 12).toNatClampNeg) a2) J tg)))))))) : Runs (GW L xs) (d + 1) 142 (0, [.ref 0, .int a1, .int a2], [], (zS I J tg)) r := by
  refine Runs.sN 3 (c' := (5, [.ref 0, .int a1, .int a2], [.int a1, .ref 1], (zS I J tg))) rfl ?_
  obtain ⟨v5, I6, c9, h⟩ := h
  refine Runs.cl (cm := 45) (as := [.ref 1, .int a1]) (rest := []) (r1 := ((some (.int v5)), (zS I6 J tg))) rfl (Nat.le_of_ble_eq_true rfl) c9 ?_
  refine Runs.as (c' := (8, [.ref 0, .int a1, .int a2], [.int v5], (zS I6 J tg))) rfl ?_
  by_cases c10 : v5 = 0
  · rw [if_pos c10] at h
    refine Runs.brT (P := v5 = 0) (a := 20) (b := 11) (L := [.ref 0, .int a1, .int a2]) (S := []) (z := (zS I6 J tg)) rfl c10 ?_
    refine Runs.sN 1 (c' := (21, [.ref 0, .int a1, .int a2], [.int 0], (zS I6 J tg))) rfl ?_
    subst h
    exact Runs.rt rfl
  · rw [if_neg c10] at h
    refine Runs.brF (P := v5 = 0) (a := 20) (b := 11) (L := [.ref 0, .int a1, .int a2]) (S := []) (z := (zS I6 J tg)) rfl c10 ?_
    refine Runs.sN 3 (c' := (14, [.ref 0, .int a1, .int a2], [.int 5, .int 0, .int a2], (zS I6 J tg))) rfl ?_
    obtain ⟨v7, I8, c11, h⟩ := h
    refine Runs.cl (cm := 164) (as := [.int a2, .int 0, .int 5]) (rest := []) (r1 := ((some (.int v7)), (zS I8 J tg))) rfl (Nat.le_of_ble_eq_true rfl) c11 ?_
    refine Runs.as (c' := (17, [.ref 0, .int a1, .int a2], [.int v7], (zS I8 J tg))) rfl ?_
    by_cases c12 : v7 = 0
    · rw [if_pos c12] at h
      refine Runs.brT (P := v7 = 0) (a := 20) (b := 22) (L := [.ref 0, .int a1, .int a2]) (S := []) (z := (zS I8 J tg)) rfl c12 ?_
      refine Runs.sN 1 (c' := (21, [.ref 0, .int a1, .int a2], [.int 0], (zS I8 J tg))) rfl ?_
      subst h
      exact Runs.rt rfl
    · rw [if_neg c12] at h
      refine Runs.brF (P := v7 = 0) (a := 20) (b := 22) (L := [.ref 0, .int a1, .int a2]) (S := []) (z := (zS I8 J tg)) rfl c12 ?_
      refine Runs.sN 7 (c' := (34, [.ref 0, .int a1, .int a2], [.int a2, .int (a1 - 12), .ref 11], (zS I8 J tg))) rfl ?_
      obtain ⟨c13, h⟩ := h
      refine Runs.to (c' := (35, [.ref 0, .int a1, .int a2], [], (zS (up2 I8 11 ((a1 - 12).toNatClampNeg) a2) J tg))) (Runs.ist rfl (show (11 : Nat) < 114 by decide) rfl c13) ?_
      refine Runs.sN 1 (c' := (36, [.ref 0, .int a1, .int a2], [.int 1], (zS (up2 I8 11 ((a1 - 12).toNatClampNeg) a2) J tg))) rfl ?_
      subst h
      exact Runs.rt rfl
-- X11_hang 
theorem sg_143 {L d : Nat} {xs : Nat → Int32} (I : Nat → Nat → Int32) (J : Nat → Nat → Int64) (tg : Option Nat) (a1 : Int32) {r : Option Value × SS} (h : (∃ (v3 : Int32) (I4 : Nat → Nat → Int32), Runs (GW L xs) d 44 (0, [.ref 1, .int a1], [], (zS I J tg)) ((some (.int v3)), (zS I4 J tg)) ∧ (if v3 = 0 then (r = (some (.int (-1)), (zS I4 J tg))) else ((if (I4 18 3) < 8 then (¬ ((I4 18 3) < 0 ∨ 8 ≤ (I4 18 3).toNatClampNeg) ∧ r = (some (.int ((I4 18 3) + 1)), (zS (up2 (up2 I4 22 ((I4 18 3).toNatClampNeg) a1) 18 3 ((I4 18 3) + 1)) J tg))) else (r = (some (.int (-1)), (zS I4 J tg)))))))) : Runs (GW L xs) (d + 1) 143 (0, [.ref 0, .int a1], [], (zS I J tg)) r := by
  refine Runs.sN 3 (c' := (5, [.ref 0, .int a1], [.int a1, .ref 1], (zS I J tg))) rfl ?_
  obtain ⟨v3, I4, c5, h⟩ := h
  refine Runs.cl (cm := 44) (as := [.ref 1, .int a1]) (rest := []) (r1 := ((some (.int v3)), (zS I4 J tg))) rfl (Nat.le_of_ble_eq_true rfl) c5 ?_
  refine Runs.as (c' := (8, [.ref 0, .int a1], [.int v3], (zS I4 J tg))) rfl ?_
  by_cases c6 : v3 = 0
  · rw [if_pos c6] at h
    refine Runs.brT (P := v3 = 0) (a := 23) (b := 11) (L := [.ref 0, .int a1]) (S := []) (z := (zS I4 J tg)) rfl c6 ?_
    refine Runs.sN 1 (c' := (24, [.ref 0, .int a1], [.int (-1)], (zS I4 J tg))) rfl ?_
    subst h
    exact Runs.rt rfl
  · rw [if_neg c6] at h
    refine Runs.brF (P := v3 = 0) (a := 23) (b := 11) (L := [.ref 0, .int a1]) (S := []) (z := (zS I4 J tg)) rfl c6 ?_
    refine Runs.sN 4 (c' := (20, [.ref 0, .int a1], [.int 8, .int (I4 18 3)], (zS I4 J tg))) rfl ?_
    by_cases c7 : (I4 18 3) < 8
    · rw [if_pos c7] at h
      refine Runs.brT (P := (I4 18 3) < 8) (a := 25) (b := 23) (L := [.ref 0, .int a1]) (S := []) (z := (zS I4 J tg)) rfl c7 ?_
      refine Runs.sN 7 (c' := (40, [.ref 0, .int a1], [.int a1, .int (I4 18 3), .ref 22], (zS I4 J tg))) rfl ?_
      obtain ⟨c8, h⟩ := h
      refine Runs.to (c' := (41, [.ref 0, .int a1], [], (zS (up2 I4 22 ((I4 18 3).toNatClampNeg) a1) J tg))) (Runs.ist rfl (show (22 : Nat) < 114 by decide) rfl c8) ?_
      refine Runs.sN 10 (c' := (61, [.ref 0, .int a1], [.int ((I4 18 3) + 1)], (zS (up2 (up2 I4 22 ((I4 18 3).toNatClampNeg) a1) 18 3 ((I4 18 3) + 1)) J tg))) rfl ?_
      subst h
      exact Runs.rt rfl
    · rw [if_neg c7] at h
      refine Runs.brF (P := (I4 18 3) < 8) (a := 25) (b := 23) (L := [.ref 0, .int a1]) (S := []) (z := (zS I4 J tg)) rfl c7 ?_
      refine Runs.sN 1 (c' := (24, [.ref 0, .int a1], [.int (-1)], (zS I4 J tg))) rfl ?_
      subst h
      exact Runs.rt rfl
-- X11_unhang 
theorem sg_144 {L d : Nat} {xs : Nat → Int32} (I : Nat → Nat → Int32) (J : Nat → Nat → Int64) (tg : Option Nat) {r : Option Value × SS} (h : (r = (some (.int (I 18 3)), (zS (up2 I 18 3 0) J tg)))) : Runs (GW L xs) d 144 (0, [.ref 0, vU], [], (zS I J tg)) r := by
  refine Runs.sN 9 (c' := (17, [.ref 0, .int (I 18 3)], [.int (I 18 3)], (zS (up2 I 18 3 0) J tg))) rfl ?_
  subst h
  exact Runs.rt rfl
-- X11_among 
theorem sg_145 {L d : Nat} {xs : Nat → Int32} (I : Nat → Nat → Int32) (J : Nat → Nat → Int64) (tg : Option Nat) (a1 : Int32) (a2 : Int32) (a3 : Int32) {r : Option Value × SS} (h : (∃ (v12 : Int32) (I13 : Nat → Nat → Int32), Runs (GW L xs) d 164 (0, [.int a1, .int 0, .int ((I 18 3) - 1)], [], (zS I J tg)) ((some (.int v12)), (zS I13 J tg)) ∧ (if v12 = 0 then (r = (some (.int (-1)), (zS I13 J tg))) else (∃ (v14 : Int32) (I15 : Nat → Nat → Int32), Runs (GW L xs) d 165 (0, [.int a2], [], (zS I13 J tg)) ((some (.int v14)), (zS I15 J tg)) ∧ (if v14 = 0 then (r = (some (.int (-1)), (zS I15 J tg))) else (∃ (v16 : Int32) (I17 : Nat → Nat → Int32), Runs (GW L xs) d 166 (0, [.int a3], [], (zS I15 J tg)) ((some (.int v16)), (zS I17 J tg)) ∧ (if v16 = 0 then (r = (some (.int (-1)), (zS I17 J tg))) else (∃ (I18 : Nat → Nat → Int32), Runs (GW L xs) d 32 (0, [.ref 86, .int a3, vU], [], (zS I17 J tg)) (none, (zS I18 J tg)) ∧ ∃ (v19 : Int32) (I20 : Nat → Nat → Int32), Runs (GW L xs) d 33 (0, [.ref 86, .int a1, .int a2, vU, vU], [], (zS I18 J tg)) ((some (.int v19)), (zS I20 J tg)) ∧ ∃ (v21 : Int32) (I22 : Nat → Nat → Int32), Runs (GW L xs) d 168 (0, [.int v19], [], (zS I20 J tg)) ((some (.int v21)), (zS I22 J tg)) ∧ r = (some (.int v21), (zS I22 J tg)))))))))) : Runs (GW L xs) (d + 1) 145 (0, [.ref 0, .int a1, .int a2, .int a3], [], (zS I J tg)) r := by
  refine Runs.sN 7 (c' := (11, [.ref 0, .int a1, .int a2, .int a3], [.int ((I 18 3) - 1), .int 0, .int a1], (zS I J tg))) rfl ?_
  obtain ⟨v12, I13, c23, h⟩ := h
  refine Runs.cl (cm := 164) (as := [.int a1, .int 0, .int ((I 18 3) - 1)]) (rest := []) (r1 := ((some (.int v12)), (zS I13 J tg))) rfl (Nat.le_of_ble_eq_true rfl) c23 ?_
  refine Runs.as (c' := (14, [.ref 0, .int a1, .int a2, .int a3], [.int v12], (zS I13 J tg))) rfl ?_
  by_cases c24 : v12 = 0
  · rw [if_pos c24] at h
    refine Runs.brT (P := v12 = 0) (a := 31) (b := 17) (L := [.ref 0, .int a1, .int a2, .int a3]) (S := []) (z := (zS I13 J tg)) rfl c24 ?_
    refine Runs.sN 1 (c' := (32, [.ref 0, .int a1, .int a2, .int a3], [.int (-1)], (zS I13 J tg))) rfl ?_
    subst h
    exact Runs.rt rfl
  · rw [if_neg c24] at h
    refine Runs.brF (P := v12 = 0) (a := 31) (b := 17) (L := [.ref 0, .int a1, .int a2, .int a3]) (S := []) (z := (zS I13 J tg)) rfl c24 ?_
    refine Runs.sN 1 (c' := (18, [.ref 0, .int a1, .int a2, .int a3], [.int a2], (zS I13 J tg))) rfl ?_
    obtain ⟨v14, I15, c25, h⟩ := h
    refine Runs.cl (cm := 165) (as := [.int a2]) (rest := []) (r1 := ((some (.int v14)), (zS I15 J tg))) rfl (Nat.le_of_ble_eq_true rfl) c25 ?_
    refine Runs.as (c' := (21, [.ref 0, .int a1, .int a2, .int a3], [.int v14], (zS I15 J tg))) rfl ?_
    by_cases c26 : v14 = 0
    · rw [if_pos c26] at h
      refine Runs.brT (P := v14 = 0) (a := 31) (b := 24) (L := [.ref 0, .int a1, .int a2, .int a3]) (S := []) (z := (zS I15 J tg)) rfl c26 ?_
      refine Runs.sN 1 (c' := (32, [.ref 0, .int a1, .int a2, .int a3], [.int (-1)], (zS I15 J tg))) rfl ?_
      subst h
      exact Runs.rt rfl
    · rw [if_neg c26] at h
      refine Runs.brF (P := v14 = 0) (a := 31) (b := 24) (L := [.ref 0, .int a1, .int a2, .int a3]) (S := []) (z := (zS I15 J tg)) rfl c26 ?_
      refine Runs.sN 1 (c' := (25, [.ref 0, .int a1, .int a2, .int a3], [.int a3], (zS I15 J tg))) rfl ?_
      obtain ⟨v16, I17, c27, h⟩ := h
      refine Runs.cl (cm := 166) (as := [.int a3]) (rest := []) (r1 := ((some (.int v16)), (zS I17 J tg))) rfl (Nat.le_of_ble_eq_true rfl) c27 ?_
      refine Runs.as (c' := (28, [.ref 0, .int a1, .int a2, .int a3], [.int v16], (zS I17 J tg))) rfl ?_
      by_cases c28 : v16 = 0
      · rw [if_pos c28] at h
        refine Runs.brT (P := v16 = 0) (a := 31) (b := 33) (L := [.ref 0, .int a1, .int a2, .int a3]) (S := []) (z := (zS I17 J tg)) rfl c28 ?_
        refine Runs.sN 1 (c' := (32, [.ref 0, .int a1, .int a2, .int a3], [.int (-1)], (zS I17 J tg))) rfl ?_
        subst h
        exact Runs.rt rfl
      · rw [if_neg c28] at h
        refine Runs.brF (P := v16 = 0) (a := 31) (b := 33) (L := [.ref 0, .int a1, .int a2, .int a3]) (S := []) (z := (zS I17 J tg)) rfl c28 ?_
        refine Runs.sN 3 (c' := (38, [.ref 0, .int a1, .int a2, .int a3], [.int a3, .ref 86], (zS I17 J tg))) rfl ?_
        obtain ⟨I18, c29, h⟩ := h
        refine Runs.cl (cm := 32) (as := [.ref 86, .int a3]) (rest := []) (r1 := (none, (zS I18 J tg))) rfl (Nat.le_of_ble_eq_true rfl) c29 ?_
        refine Runs.as (c' := (41, [.ref 0, .int a1, .int a2, .int a3], [], (zS I18 J tg))) rfl ?_
        refine Runs.sN 4 (c' := (47, [.ref 0, .int a1, .int a2, .int a3], [.int a2, .int a1, .ref 86], (zS I18 J tg))) rfl ?_
        obtain ⟨v19, I20, c30, h⟩ := h
        refine Runs.cl (cm := 33) (as := [.ref 86, .int a1, .int a2]) (rest := []) (r1 := ((some (.int v19)), (zS I20 J tg))) rfl (Nat.le_of_ble_eq_true rfl) c30 ?_
        refine Runs.as (c' := (50, [.ref 0, .int a1, .int a2, .int a3], [.int v19], (zS I20 J tg))) rfl ?_
        obtain ⟨v21, I22, c31, h⟩ := h
        refine Runs.cl (cm := 168) (as := [.int v19]) (rest := []) (r1 := ((some (.int v21)), (zS I22 J tg))) rfl (Nat.le_of_ble_eq_true rfl) c31 ?_
        refine Runs.as (c' := (53, [.ref 0, .int a1, .int a2, .int a3], [.int v21], (zS I22 J tg))) rfl ?_
        subst h
        exact Runs.rt rfl
-- X11_order 
theorem sg_146 {L d : Nat} {xs : Nat → Int32} (I : Nat → Nat → Int32) (J : Nat → Nat → Int64) (tg : Option Nat) (a1 : Int32) (a2 : Int32) {r : Option Value × SS} (h : (∃ (v9 : Int32) (I10 : Nat → Nat → Int32), Runs (GW L xs) d 166 (0, [.int a1], [], (zS I J tg)) ((some (.int v9)), (zS I10 J tg)) ∧ (if v9 = 0 then (r = (some (.int (-1)), (zS I10 J tg))) else (∃ (v11 : Int32) (I12 : Nat → Nat → Int32), Runs (GW L xs) d 164 (0, [.int (I10 18 3), .int 1, .int 6], [], (zS I10 J tg)) ((some (.int v11)), (zS I12 J tg)) ∧ (if v11 = 0 then (r = (some (.int (-1)), (zS I12 J tg))) else (∃ (v13 : Int32) (I14 : Nat → Nat → Int32), Runs (GW L xs) d 164 (0, [.int a2, .int (-1), .int ((I12 18 3) - 1)], [], (zS I12 J tg)) ((some (.int v13)), (zS I14 J tg)) ∧ (if v13 = 0 then (r = (some (.int (-1)), (zS I14 J tg))) else (∃ (I15 : Nat → Nat → Int32), Runs (GW L xs) d 32 (0, [.ref 86, .int a1, vU], [], (zS I14 J tg)) (none, (zS I15 J tg)) ∧ ∃ (I16 : Nat → Nat → Int32), Runs (GW L xs) d 36 (0, [.ref 86], [], (zS I15 J tg)) (none, (zS I16 J tg)) ∧ (if a2 = (-1) then (r = (some (.int (I16 86 8)), (zS I16 J tg))) else (¬ (a2 < 0 ∨ 8 ≤ (a2).toNatClampNeg) ∧ ¬ ((I16 91 ((a2).toNatClampNeg)) < 0 ∨ 8 ≤ (I16 91 ((a2).toNatClampNeg)).toNatClampNeg) ∧ r = (some (.int (I16 22 ((I16 91 ((a2).toNatClampNeg)).toNatClampNeg))), (zS I16 J tg)))))))))))) : Runs (GW L xs) (d + 1) 146 (0, [.ref 0, .int a1, .int a2], [], (zS I J tg)) r := by
  refine Runs.sN 1 (c' := (1, [.ref 0, .int a1, .int a2], [.int a1], (zS I J tg))) rfl ?_
  obtain ⟨v9, I10, c17, h⟩ := h
  refine Runs.cl (cm := 166) (as := [.int a1]) (rest := []) (r1 := ((some (.int v9)), (zS I10 J tg))) rfl (Nat.le_of_ble_eq_true rfl) c17 ?_
  refine Runs.as (c' := (4, [.ref 0, .int a1, .int a2], [.int v9], (zS I10 J tg))) rfl ?_
  by_cases c18 : v9 = 0
  · rw [if_pos c18] at h
    refine Runs.brT (P := v9 = 0) (a := 40) (b := 7) (L := [.ref 0, .int a1, .int a2]) (S := []) (z := (zS I10 J tg)) rfl c18 ?_
    refine Runs.sN 1 (c' := (41, [.ref 0, .int a1, .int a2], [.int (-1)], (zS I10 J tg))) rfl ?_
    subst h
    exact Runs.rt rfl
  · rw [if_neg c18] at h
    refine Runs.brF (P := v9 = 0) (a := 40) (b := 7) (L := [.ref 0, .int a1, .int a2]) (S := []) (z := (zS I10 J tg)) rfl c18 ?_
    refine Runs.sN 5 (c' := (17, [.ref 0, .int a1, .int a2], [.int 6, .int 1, .int (I10 18 3)], (zS I10 J tg))) rfl ?_
    obtain ⟨v11, I12, c19, h⟩ := h
    refine Runs.cl (cm := 164) (as := [.int (I10 18 3), .int 1, .int 6]) (rest := []) (r1 := ((some (.int v11)), (zS I12 J tg))) rfl (Nat.le_of_ble_eq_true rfl) c19 ?_
    refine Runs.as (c' := (20, [.ref 0, .int a1, .int a2], [.int v11], (zS I12 J tg))) rfl ?_
    by_cases c20 : v11 = 0
    · rw [if_pos c20] at h
      refine Runs.brT (P := v11 = 0) (a := 40) (b := 23) (L := [.ref 0, .int a1, .int a2]) (S := []) (z := (zS I12 J tg)) rfl c20 ?_
      refine Runs.sN 1 (c' := (41, [.ref 0, .int a1, .int a2], [.int (-1)], (zS I12 J tg))) rfl ?_
      subst h
      exact Runs.rt rfl
    · rw [if_neg c20] at h
      refine Runs.brF (P := v11 = 0) (a := 40) (b := 23) (L := [.ref 0, .int a1, .int a2]) (S := []) (z := (zS I12 J tg)) rfl c20 ?_
      refine Runs.sN 7 (c' := (34, [.ref 0, .int a1, .int a2], [.int ((I12 18 3) - 1), .int (-1), .int a2], (zS I12 J tg))) rfl ?_
      obtain ⟨v13, I14, c21, h⟩ := h
      refine Runs.cl (cm := 164) (as := [.int a2, .int (-1), .int ((I12 18 3) - 1)]) (rest := []) (r1 := ((some (.int v13)), (zS I14 J tg))) rfl (Nat.le_of_ble_eq_true rfl) c21 ?_
      refine Runs.as (c' := (37, [.ref 0, .int a1, .int a2], [.int v13], (zS I14 J tg))) rfl ?_
      by_cases c22 : v13 = 0
      · rw [if_pos c22] at h
        refine Runs.brT (P := v13 = 0) (a := 40) (b := 42) (L := [.ref 0, .int a1, .int a2]) (S := []) (z := (zS I14 J tg)) rfl c22 ?_
        refine Runs.sN 1 (c' := (41, [.ref 0, .int a1, .int a2], [.int (-1)], (zS I14 J tg))) rfl ?_
        subst h
        exact Runs.rt rfl
      · rw [if_neg c22] at h
        refine Runs.brF (P := v13 = 0) (a := 40) (b := 42) (L := [.ref 0, .int a1, .int a2]) (S := []) (z := (zS I14 J tg)) rfl c22 ?_
        refine Runs.sN 3 (c' := (47, [.ref 0, .int a1, .int a2], [.int a1, .ref 86], (zS I14 J tg))) rfl ?_
        obtain ⟨I15, c23, h⟩ := h
        refine Runs.cl (cm := 32) (as := [.ref 86, .int a1]) (rest := []) (r1 := (none, (zS I15 J tg))) rfl (Nat.le_of_ble_eq_true rfl) c23 ?_
        refine Runs.as (c' := (50, [.ref 0, .int a1, .int a2], [], (zS I15 J tg))) rfl ?_
        refine Runs.sN 2 (c' := (54, [.ref 0, .int a1, .int a2], [.ref 86], (zS I15 J tg))) rfl ?_
        obtain ⟨I16, c24, h⟩ := h
        refine Runs.cl (cm := 36) (as := [.ref 86]) (rest := []) (r1 := (none, (zS I16 J tg))) rfl (Nat.le_of_ble_eq_true rfl) c24 ?_
        refine Runs.as (c' := (57, [.ref 0, .int a1, .int a2], [], (zS I16 J tg))) rfl ?_
        refine Runs.sN 2 (c' := (59, [.ref 0, .int a1, .int a2], [.int (-1), .int a2], (zS I16 J tg))) rfl ?_
        by_cases c25 : a2 = (-1)
        · rw [if_pos c25] at h
          refine Runs.brT (P := a2 = (-1)) (a := 62) (b := 72) (L := [.ref 0, .int a1, .int a2]) (S := []) (z := (zS I16 J tg)) rfl c25 ?_
          refine Runs.sN 4 (c' := (89, [.ref 0, .int a1, .int a2], [.int (I16 86 8)], (zS I16 J tg))) rfl ?_
          subst h
          exact Runs.rt rfl
        · rw [if_neg c25] at h
          refine Runs.brF (P := a2 = (-1)) (a := 62) (b := 72) (L := [.ref 0, .int a1, .int a2]) (S := []) (z := (zS I16 J tg)) rfl c25 ?_
          refine Runs.sN 7 (c' := (87, [.ref 0, .int a1, .int a2], [.int a2, .ref 91, .ref 22], (zS I16 J tg))) rfl ?_
          obtain ⟨c26, h⟩ := h
          refine Runs.to (c' := (88, [.ref 0, .int a1, .int a2], [.int (I16 91 ((a2).toNatClampNeg)), .ref 22], (zS I16 J tg))) (Runs.ild rfl (show (91 : Nat) < 114 by decide) rfl c26) ?_
          obtain ⟨c27, h⟩ := h
          refine Runs.to (c' := (89, [.ref 0, .int a1, .int a2], [.int (I16 22 ((I16 91 ((a2).toNatClampNeg)).toNatClampNeg))], (zS I16 J tg))) (Runs.ild rfl (show (22 : Nat) < 114 by decide) rfl c27) ?_
          subst h
          exact Runs.rt rfl
-- X11_worn 
theorem sg_147 {L d : Nat} {xs : Nat → Int32} (I : Nat → Nat → Int32) (J : Nat → Nat → Int64) (tg : Option Nat) (a1 : Int32) (a2 : Int32) (a3 : Int32) (a4 : Int32) {r : Option Value × SS} (h : (∃ (v10 : Int32) (I11 : Nat → Nat → Int32), Runs (GW L xs) d 44 (0, [.ref 1, .int a1], [], (zS I J tg)) ((some (.int v10)), (zS I11 J tg)) ∧ (if v10 = 0 then (r = (some (.int (-1)), (zS I11 J tg))) else (∃ (v12 : Int32) (I13 : Nat → Nat → Int32), Runs (GW L xs) d 166 (0, [.int a2], [], (zS I11 J tg)) ((some (.int v12)), (zS I13 J tg)) ∧ (if v12 = 0 then (r = (some (.int (-1)), (zS I13 J tg))) else (∃ (v14 : Int32) (I15 : Nat → Nat → Int32), Runs (GW L xs) d 164 (0, [.int a4, .int 0, .int 1], [], (zS I13 J tg)) ((some (.int v14)), (zS I15 J tg)) ∧ (if v14 = 0 then (r = (some (.int (-1)), (zS I15 J tg))) else (¬ (a1 < 0 ∨ 24 ≤ (a1).toNatClampNeg) ∧ ∃ (v16 : Int32) (I17 : Nat → Nat → Int32), Runs (GW L xs) d 164 (0, [.int a3, .int 0, .int (I15 3 ((a1).toNatClampNeg))], [], (zS I15 J tg)) ((some (.int v16)), (zS I17 J tg)) ∧ (if v16 = 0 then (r = (some (.int (-1)), (zS I17 J tg))) else (∃ (I18 : Nat → Nat → Int32), Runs (GW L xs) d 8 (0, [.ref 79, .int a1, .int a2, .int a3, vU, vU, vU], [], (zS I17 J tg)) (none, (zS I18 J tg)) ∧ (if a4 = 0 then (r = (some (.int (I18 79 12)), (zS I18 J tg))) else (r = (some (.int (I18 79 13)), (zS I18 J tg)))))))))))))) : Runs (GW L xs) (d + 1) 147 (0, [.ref 0, .int a1, .int a2, .int a3, .int a4], [], (zS I J tg)) r := by
  refine Runs.sN 3 (c' := (5, [.ref 0, .int a1, .int a2, .int a3, .int a4], [.int a1, .ref 1], (zS I J tg))) rfl ?_
  obtain ⟨v10, I11, c19, h⟩ := h
  refine Runs.cl (cm := 44) (as := [.ref 1, .int a1]) (rest := []) (r1 := ((some (.int v10)), (zS I11 J tg))) rfl (Nat.le_of_ble_eq_true rfl) c19 ?_
  refine Runs.as (c' := (8, [.ref 0, .int a1, .int a2, .int a3, .int a4], [.int v10], (zS I11 J tg))) rfl ?_
  by_cases c20 : v10 = 0
  · rw [if_pos c20] at h
    refine Runs.brT (P := v10 = 0) (a := 28) (b := 11) (L := [.ref 0, .int a1, .int a2, .int a3, .int a4]) (S := []) (z := (zS I11 J tg)) rfl c20 ?_
    refine Runs.sN 1 (c' := (29, [.ref 0, .int a1, .int a2, .int a3, .int a4], [.int (-1)], (zS I11 J tg))) rfl ?_
    subst h
    exact Runs.rt rfl
  · rw [if_neg c20] at h
    refine Runs.brF (P := v10 = 0) (a := 28) (b := 11) (L := [.ref 0, .int a1, .int a2, .int a3, .int a4]) (S := []) (z := (zS I11 J tg)) rfl c20 ?_
    refine Runs.sN 1 (c' := (12, [.ref 0, .int a1, .int a2, .int a3, .int a4], [.int a2], (zS I11 J tg))) rfl ?_
    obtain ⟨v12, I13, c21, h⟩ := h
    refine Runs.cl (cm := 166) (as := [.int a2]) (rest := []) (r1 := ((some (.int v12)), (zS I13 J tg))) rfl (Nat.le_of_ble_eq_true rfl) c21 ?_
    refine Runs.as (c' := (15, [.ref 0, .int a1, .int a2, .int a3, .int a4], [.int v12], (zS I13 J tg))) rfl ?_
    by_cases c22 : v12 = 0
    · rw [if_pos c22] at h
      refine Runs.brT (P := v12 = 0) (a := 28) (b := 18) (L := [.ref 0, .int a1, .int a2, .int a3, .int a4]) (S := []) (z := (zS I13 J tg)) rfl c22 ?_
      refine Runs.sN 1 (c' := (29, [.ref 0, .int a1, .int a2, .int a3, .int a4], [.int (-1)], (zS I13 J tg))) rfl ?_
      subst h
      exact Runs.rt rfl
    · rw [if_neg c22] at h
      refine Runs.brF (P := v12 = 0) (a := 28) (b := 18) (L := [.ref 0, .int a1, .int a2, .int a3, .int a4]) (S := []) (z := (zS I13 J tg)) rfl c22 ?_
      refine Runs.sN 3 (c' := (22, [.ref 0, .int a1, .int a2, .int a3, .int a4], [.int 1, .int 0, .int a4], (zS I13 J tg))) rfl ?_
      obtain ⟨v14, I15, c23, h⟩ := h
      refine Runs.cl (cm := 164) (as := [.int a4, .int 0, .int 1]) (rest := []) (r1 := ((some (.int v14)), (zS I15 J tg))) rfl (Nat.le_of_ble_eq_true rfl) c23 ?_
      refine Runs.as (c' := (25, [.ref 0, .int a1, .int a2, .int a3, .int a4], [.int v14], (zS I15 J tg))) rfl ?_
      by_cases c24 : v14 = 0
      · rw [if_pos c24] at h
        refine Runs.brT (P := v14 = 0) (a := 28) (b := 30) (L := [.ref 0, .int a1, .int a2, .int a3, .int a4]) (S := []) (z := (zS I15 J tg)) rfl c24 ?_
        refine Runs.sN 1 (c' := (29, [.ref 0, .int a1, .int a2, .int a3, .int a4], [.int (-1)], (zS I15 J tg))) rfl ?_
        subst h
        exact Runs.rt rfl
      · rw [if_neg c24] at h
        refine Runs.brF (P := v14 = 0) (a := 28) (b := 30) (L := [.ref 0, .int a1, .int a2, .int a3, .int a4]) (S := []) (z := (zS I15 J tg)) rfl c24 ?_
        refine Runs.sN 6 (c' := (40, [.ref 0, .int a1, .int a2, .int a3, .int a4], [.int a1, .ref 3, .int 0, .int a3], (zS I15 J tg))) rfl ?_
        obtain ⟨c25, h⟩ := h
        refine Runs.to (c' := (41, [.ref 0, .int a1, .int a2, .int a3, .int a4], [.int (I15 3 ((a1).toNatClampNeg)), .int 0, .int a3], (zS I15 J tg))) (Runs.ild rfl (show (3 : Nat) < 114 by decide) rfl c25) ?_
        obtain ⟨v16, I17, c26, h⟩ := h
        refine Runs.cl (cm := 164) (as := [.int a3, .int 0, .int (I15 3 ((a1).toNatClampNeg))]) (rest := []) (r1 := ((some (.int v16)), (zS I17 J tg))) rfl (Nat.le_of_ble_eq_true rfl) c26 ?_
        refine Runs.as (c' := (44, [.ref 0, .int a1, .int a2, .int a3, .int a4], [.int v16], (zS I17 J tg))) rfl ?_
        by_cases c27 : v16 = 0
        · rw [if_pos c27] at h
          refine Runs.brT (P := v16 = 0) (a := 47) (b := 49) (L := [.ref 0, .int a1, .int a2, .int a3, .int a4]) (S := []) (z := (zS I17 J tg)) rfl c27 ?_
          refine Runs.sN 1 (c' := (48, [.ref 0, .int a1, .int a2, .int a3, .int a4], [.int (-1)], (zS I17 J tg))) rfl ?_
          subst h
          exact Runs.rt rfl
        · rw [if_neg c27] at h
          refine Runs.brF (P := v16 = 0) (a := 47) (b := 49) (L := [.ref 0, .int a1, .int a2, .int a3, .int a4]) (S := []) (z := (zS I17 J tg)) rfl c27 ?_
          refine Runs.sN 5 (c' := (56, [.ref 0, .int a1, .int a2, .int a3, .int a4], [.int a3, .int a2, .int a1, .ref 79], (zS I17 J tg))) rfl ?_
          obtain ⟨I18, c28, h⟩ := h
          refine Runs.cl (cm := 8) (as := [.ref 79, .int a1, .int a2, .int a3]) (rest := []) (r1 := (none, (zS I18 J tg))) rfl (Nat.le_of_ble_eq_true rfl) c28 ?_
          refine Runs.as (c' := (59, [.ref 0, .int a1, .int a2, .int a3, .int a4], [], (zS I18 J tg))) rfl ?_
          refine Runs.sN 1 (c' := (61, [.ref 0, .int a1, .int a2, .int a3, .int a4], [.int a4], (zS I18 J tg))) rfl ?_
          by_cases c29 : a4 = 0
          · rw [if_pos c29] at h
            refine Runs.brT (P := a4 = 0) (a := 64) (b := 74) (L := [.ref 0, .int a1, .int a2, .int a3, .int a4]) (S := []) (z := (zS I18 J tg)) rfl c29 ?_
            refine Runs.sN 4 (c' := (81, [.ref 0, .int a1, .int a2, .int a3, .int a4], [.int (I18 79 12)], (zS I18 J tg))) rfl ?_
            subst h
            exact Runs.rt rfl
          · rw [if_neg c29] at h
            refine Runs.brF (P := a4 = 0) (a := 64) (b := 74) (L := [.ref 0, .int a1, .int a2, .int a3, .int a4]) (S := []) (z := (zS I18 J tg)) rfl c29 ?_
            refine Runs.sN 3 (c' := (81, [.ref 0, .int a1, .int a2, .int a3, .int a4], [.int (I18 79 13)], (zS I18 J tg))) rfl ?_
            subst h
            exact Runs.rt rfl
-- X11_teach 
theorem sg_148 {L d : Nat} {xs : Nat → Int32} (I : Nat → Nat → Int32) (J : Nat → Nat → Int64) (tg : Option Nat) (a1 : Int32) (a2 : Int32) {r : Option Value × SS} (h : (∃ (v7 : Int32) (I8 : Nat → Nat → Int32), Runs (GW L xs) d 44 (0, [.ref 1, .int a1], [], (zS I J tg)) ((some (.int v7)), (zS I8 J tg)) ∧ (if v7 = 0 then (r = (some (.int (-1)), (zS I8 J tg))) else (∃ (v9 : Int32) (I10 : Nat → Nat → Int32), Runs (GW L xs) d 165 (0, [.int a2], [], (zS I8 J tg)) ((some (.int v9)), (zS I10 J tg)) ∧ (if v9 = 0 then (r = (some (.int (-1)), (zS I10 J tg))) else (¬ (((a1 * 6) + a2) < 0 ∨ 72 ≤ ((a1 * 6) + a2).toNatClampNeg) ∧ ∃ (v11 : Int32) (I12 : Nat → Nat → Int32), Runs (GW L xs) d 110 (0, [.ref 7, .int (I10 12 (((a1 * 6) + a2).toNatClampNeg))], [], (zS I10 J tg)) ((some (.int v11)), (zS I12 J tg)) ∧ ¬ (((a1 * 6) + a2) < 0 ∨ 72 ≤ ((a1 * 6) + a2).toNatClampNeg) ∧ ¬ (((a1 * 6) + a2) < 0 ∨ 72 ≤ ((a1 * 6) + a2).toNatClampNeg) ∧ r = (some (.int ((up2 I12 12 (((a1 * 6) + a2).toNatClampNeg) v11) 12 (((a1 * 6) + a2).toNatClampNeg))), (zS (up2 I12 12 (((a1 * 6) + a2).toNatClampNeg) v11) J tg)))))))) : Runs (GW L xs) (d + 1) 148 (0, [.ref 0, .int a1, .int a2, vU], [], (zS I J tg)) r := by
  refine Runs.sN 3 (c' := (5, [.ref 0, .int a1, .int a2, vU], [.int a1, .ref 1], (zS I J tg))) rfl ?_
  obtain ⟨v7, I8, c13, h⟩ := h
  refine Runs.cl (cm := 44) (as := [.ref 1, .int a1]) (rest := []) (r1 := ((some (.int v7)), (zS I8 J tg))) rfl (Nat.le_of_ble_eq_true rfl) c13 ?_
  refine Runs.as (c' := (8, [.ref 0, .int a1, .int a2, vU], [.int v7], (zS I8 J tg))) rfl ?_
  by_cases c14 : v7 = 0
  · rw [if_pos c14] at h
    refine Runs.brT (P := v7 = 0) (a := 18) (b := 11) (L := [.ref 0, .int a1, .int a2, vU]) (S := []) (z := (zS I8 J tg)) rfl c14 ?_
    refine Runs.sN 1 (c' := (19, [.ref 0, .int a1, .int a2, vU], [.int (-1)], (zS I8 J tg))) rfl ?_
    subst h
    exact Runs.rt rfl
  · rw [if_neg c14] at h
    refine Runs.brF (P := v7 = 0) (a := 18) (b := 11) (L := [.ref 0, .int a1, .int a2, vU]) (S := []) (z := (zS I8 J tg)) rfl c14 ?_
    refine Runs.sN 1 (c' := (12, [.ref 0, .int a1, .int a2, vU], [.int a2], (zS I8 J tg))) rfl ?_
    obtain ⟨v9, I10, c15, h⟩ := h
    refine Runs.cl (cm := 165) (as := [.int a2]) (rest := []) (r1 := ((some (.int v9)), (zS I10 J tg))) rfl (Nat.le_of_ble_eq_true rfl) c15 ?_
    refine Runs.as (c' := (15, [.ref 0, .int a1, .int a2, vU], [.int v9], (zS I10 J tg))) rfl ?_
    by_cases c16 : v9 = 0
    · rw [if_pos c16] at h
      refine Runs.brT (P := v9 = 0) (a := 18) (b := 20) (L := [.ref 0, .int a1, .int a2, vU]) (S := []) (z := (zS I10 J tg)) rfl c16 ?_
      refine Runs.sN 1 (c' := (19, [.ref 0, .int a1, .int a2, vU], [.int (-1)], (zS I10 J tg))) rfl ?_
      subst h
      exact Runs.rt rfl
    · rw [if_neg c16] at h
      refine Runs.brF (P := v9 = 0) (a := 18) (b := 20) (L := [.ref 0, .int a1, .int a2, vU]) (S := []) (z := (zS I10 J tg)) rfl c16 ?_
      refine Runs.sN 16 (c' := (47, [.ref 0, .int a1, .int a2, .int ((a1 * 6) + a2)], [.int ((a1 * 6) + a2), .ref 12, .ref 7, .int ((a1 * 6) + a2), .ref 12], (zS I10 J tg))) rfl ?_
      obtain ⟨c17, h⟩ := h
      refine Runs.to (c' := (48, [.ref 0, .int a1, .int a2, .int ((a1 * 6) + a2)], [.int (I10 12 (((a1 * 6) + a2).toNatClampNeg)), .ref 7, .int ((a1 * 6) + a2), .ref 12], (zS I10 J tg))) (Runs.ild rfl (show (12 : Nat) < 114 by decide) rfl c17) ?_
      obtain ⟨v11, I12, c18, h⟩ := h
      refine Runs.cl (cm := 110) (as := [.ref 7, .int (I10 12 (((a1 * 6) + a2).toNatClampNeg))]) (rest := [.int ((a1 * 6) + a2), .ref 12]) (r1 := ((some (.int v11)), (zS I12 J tg))) rfl (Nat.le_of_ble_eq_true rfl) c18 ?_
      refine Runs.as (c' := (51, [.ref 0, .int a1, .int a2, .int ((a1 * 6) + a2)], [.int v11, .int ((a1 * 6) + a2), .ref 12], (zS I12 J tg))) rfl ?_
      obtain ⟨c19, h⟩ := h
      refine Runs.to (c' := (52, [.ref 0, .int a1, .int a2, .int ((a1 * 6) + a2)], [], (zS (up2 I12 12 (((a1 * 6) + a2).toNatClampNeg) v11) J tg))) (Runs.ist rfl (show (12 : Nat) < 114 by decide) rfl c19) ?_
      refine Runs.sN 4 (c' := (60, [.ref 0, .int a1, .int a2, .int ((a1 * 6) + a2)], [.int ((a1 * 6) + a2), .ref 12], (zS (up2 I12 12 (((a1 * 6) + a2).toNatClampNeg) v11) J tg))) rfl ?_
      obtain ⟨c20, h⟩ := h
      refine Runs.to (c' := (61, [.ref 0, .int a1, .int a2, .int ((a1 * 6) + a2)], [.int ((up2 I12 12 (((a1 * 6) + a2).toNatClampNeg) v11) 12 (((a1 * 6) + a2).toNatClampNeg))], (zS (up2 I12 12 (((a1 * 6) + a2).toNatClampNeg) v11) J tg))) (Runs.ild rfl (show (12 : Nat) < 114 by decide) rfl c20) ?_
      subst h
      exact Runs.rt rfl
-- X11_weeks 
theorem sg_149 {L d : Nat} {xs : Nat → Int32} (I : Nat → Nat → Int32) (J : Nat → Nat → Int64) (tg : Option Nat) (a1 : Int32) {r : Option Value × SS} (h : (∃ (v7 : Int32) (I8 : Nat → Nat → Int32), Runs (GW L xs) d 164 (0, [.int a1, .int 1, .int 50], [], (zS I J tg)) ((some (.int v7)), (zS I8 J tg)) ∧ (if v7 = 0 then (r = (some (.int (-1)), (zS I8 J tg))) else (Runs (GW L xs) (d + 1) 149 (14, [.ref 0, .int a1, .int 0], [], (zS I8 J tg)) r)))) : Runs (GW L xs) (d + 1) 149 (0, [.ref 0, .int a1, vU], [], (zS I J tg)) r := by
  refine Runs.sN 3 (c' := (4, [.ref 0, .int a1, vU], [.int 50, .int 1, .int a1], (zS I J tg))) rfl ?_
  obtain ⟨v7, I8, c9, h⟩ := h
  refine Runs.cl (cm := 164) (as := [.int a1, .int 1, .int 50]) (rest := []) (r1 := ((some (.int v7)), (zS I8 J tg))) rfl (Nat.le_of_ble_eq_true rfl) c9 ?_
  refine Runs.as (c' := (7, [.ref 0, .int a1, vU], [.int v7], (zS I8 J tg))) rfl ?_
  by_cases c10 : v7 = 0
  · rw [if_pos c10] at h
    refine Runs.brT (P := v7 = 0) (a := 10) (b := 12) (L := [.ref 0, .int a1, vU]) (S := []) (z := (zS I8 J tg)) rfl c10 ?_
    refine Runs.sN 1 (c' := (11, [.ref 0, .int a1, vU], [.int (-1)], (zS I8 J tg))) rfl ?_
    subst h
    exact Runs.rt rfl
  · rw [if_neg c10] at h
    refine Runs.brF (P := v7 = 0) (a := 10) (b := 12) (L := [.ref 0, .int a1, vU]) (S := []) (z := (zS I8 J tg)) rfl c10 ?_
    refine Runs.sN 2 (c' := (14, [.ref 0, .int a1, .int 0], [], (zS I8 J tg))) rfl ?_
    exact h
theorem sg_149_14 {L d : Nat} {xs : Nat → Int32} (I : Nat → Nat → Int32) (J : Nat → Nat → Int64) (tg : Option Nat) (x1 : Int32) (x2 : Int32) {r : Option Value × SS} (h : ((if (nI 72) ≤ x2 then (r = (some (.int x1), (zS I J tg))) else (¬ (x2 < 0 ∨ 72 ≤ (x2).toNatClampNeg) ∧ ∃ (v1 : Int32) (I2 : Nat → Nat → Int32), Runs (GW L xs) d 111 (0, [.ref 7, .int (I 12 ((x2).toNatClampNeg)), .int x1, vU, vU], [], (zS I J tg)) ((some (.int v1)), (zS I2 J tg)) ∧ ¬ (x2 < 0 ∨ 72 ≤ (x2).toNatClampNeg) ∧ Runs (GW L xs) (d + 1) 149 (14, [.ref 0, .int x1, .int (x2 + 1)], [], (zS (up2 I2 12 ((x2).toNatClampNeg) v1) J tg)) r)))) : Runs (GW L xs) (d + 1) 149 (14, [.ref 0, .int x1, .int x2], [], (zS I J tg)) r := by
  refine Runs.sN 5 (c' := (23, [.ref 0, .int x1, .int x2], [.int (nI 72), .int x2], (zS I J tg))) rfl ?_
  by_cases c3 : (nI 72) ≤ x2
  · rw [if_pos c3] at h
    refine Runs.brT (P := (nI 72) ≤ x2) (a := 58) (b := 26) (L := [.ref 0, .int x1, .int x2]) (S := []) (z := (zS I J tg)) rfl c3 ?_
    refine Runs.sN 1 (c' := (59, [.ref 0, .int x1, .int x2], [.int x1], (zS I J tg))) rfl ?_
    subst h
    exact Runs.rt rfl
  · rw [if_neg c3] at h
    refine Runs.brF (P := (nI 72) ≤ x2) (a := 58) (b := 26) (L := [.ref 0, .int x1, .int x2]) (S := []) (z := (zS I J tg)) rfl c3 ?_
    refine Runs.sN 10 (c' := (46, [.ref 0, .int x1, .int x2], [.int x2, .ref 12, .ref 7, .int x2, .ref 12], (zS I J tg))) rfl ?_
    obtain ⟨c4, h⟩ := h
    refine Runs.to (c' := (47, [.ref 0, .int x1, .int x2], [.int (I 12 ((x2).toNatClampNeg)), .ref 7, .int x2, .ref 12], (zS I J tg))) (Runs.ild rfl (show (12 : Nat) < 114 by decide) rfl c4) ?_
    refine Runs.sN 1 (c' := (48, [.ref 0, .int x1, .int x2], [.int x1, .int (I 12 ((x2).toNatClampNeg)), .ref 7, .int x2, .ref 12], (zS I J tg))) rfl ?_
    obtain ⟨v1, I2, c5, h⟩ := h
    refine Runs.cl (cm := 111) (as := [.ref 7, .int (I 12 ((x2).toNatClampNeg)), .int x1]) (rest := [.int x2, .ref 12]) (r1 := ((some (.int v1)), (zS I2 J tg))) rfl (Nat.le_of_ble_eq_true rfl) c5 ?_
    refine Runs.as (c' := (51, [.ref 0, .int x1, .int x2], [.int v1, .int x2, .ref 12], (zS I2 J tg))) rfl ?_
    obtain ⟨c6, h⟩ := h
    refine Runs.to (c' := (52, [.ref 0, .int x1, .int x2], [], (zS (up2 I2 12 ((x2).toNatClampNeg) v1) J tg))) (Runs.ist rfl (show (12 : Nat) < 114 by decide) rfl c6) ?_
    refine Runs.sN 2 (c' := (14, [.ref 0, .int x1, .int (x2 + 1)], [], (zS (up2 I2 12 ((x2).toNatClampNeg) v1) J tg))) rfl ?_
    exact h
-- X11_tellings 
theorem sg_150 {L d : Nat} {xs : Nat → Int32} (I : Nat → Nat → Int32) (J : Nat → Nat → Int64) (tg : Option Nat) (a1 : Int32) (a2 : Int32) (a3 : Int32) {r : Option Value × SS} (h : (∃ (v17 : Int32) (I18 : Nat → Nat → Int32), Runs (GW L xs) d 44 (0, [.ref 1, .int a1], [], (zS I J tg)) ((some (.int v17)), (zS I18 J tg)) ∧ (if v17 = 0 then (r = (some (.int (-1)), (zS I18 J tg))) else (∃ (v19 : Int32) (I20 : Nat → Nat → Int32), Runs (GW L xs) d 165 (0, [.int a2], [], (zS I18 J tg)) ((some (.int v19)), (zS I20 J tg)) ∧ (if v19 = 0 then (r = (some (.int (-1)), (zS I20 J tg))) else (∃ (v21 : Int32) (I22 : Nat → Nat → Int32), Runs (GW L xs) d 164 (0, [.int a3, .int 0, .int 50], [], (zS I20 J tg)) ((some (.int v21)), (zS I22 J tg)) ∧ (if v21 = 0 then (r = (some (.int (-1)), (zS I22 J tg))) else (¬ (((a1 * 6) + a2) < 0 ∨ 72 ≤ ((a1 * 6) + a2).toNatClampNeg) ∧ Runs (GW L xs) (d + 1) 150 (49, [.ref 0, .int a1, .int a2, .int a3, .int (I22 12 (((a1 * 6) + a2).toNatClampNeg)), .int 0], [], (zS I22 J tg)) r)))))))) : Runs (GW L xs) (d + 1) 150 (0, [.ref 0, .int a1, .int a2, .int a3, vU, vU], [], (zS I J tg)) r := by
  refine Runs.sN 3 (c' := (5, [.ref 0, .int a1, .int a2, .int a3, vU, vU], [.int a1, .ref 1], (zS I J tg))) rfl ?_
  obtain ⟨v17, I18, c23, h⟩ := h
  refine Runs.cl (cm := 44) (as := [.ref 1, .int a1]) (rest := []) (r1 := ((some (.int v17)), (zS I18 J tg))) rfl (Nat.le_of_ble_eq_true rfl) c23 ?_
  refine Runs.as (c' := (8, [.ref 0, .int a1, .int a2, .int a3, vU, vU], [.int v17], (zS I18 J tg))) rfl ?_
  by_cases c24 : v17 = 0
  · rw [if_pos c24] at h
    refine Runs.brT (P := v17 = 0) (a := 28) (b := 11) (L := [.ref 0, .int a1, .int a2, .int a3, vU, vU]) (S := []) (z := (zS I18 J tg)) rfl c24 ?_
    refine Runs.sN 1 (c' := (29, [.ref 0, .int a1, .int a2, .int a3, vU, vU], [.int (-1)], (zS I18 J tg))) rfl ?_
    subst h
    exact Runs.rt rfl
  · rw [if_neg c24] at h
    refine Runs.brF (P := v17 = 0) (a := 28) (b := 11) (L := [.ref 0, .int a1, .int a2, .int a3, vU, vU]) (S := []) (z := (zS I18 J tg)) rfl c24 ?_
    refine Runs.sN 1 (c' := (12, [.ref 0, .int a1, .int a2, .int a3, vU, vU], [.int a2], (zS I18 J tg))) rfl ?_
    obtain ⟨v19, I20, c25, h⟩ := h
    refine Runs.cl (cm := 165) (as := [.int a2]) (rest := []) (r1 := ((some (.int v19)), (zS I20 J tg))) rfl (Nat.le_of_ble_eq_true rfl) c25 ?_
    refine Runs.as (c' := (15, [.ref 0, .int a1, .int a2, .int a3, vU, vU], [.int v19], (zS I20 J tg))) rfl ?_
    by_cases c26 : v19 = 0
    · rw [if_pos c26] at h
      refine Runs.brT (P := v19 = 0) (a := 28) (b := 18) (L := [.ref 0, .int a1, .int a2, .int a3, vU, vU]) (S := []) (z := (zS I20 J tg)) rfl c26 ?_
      refine Runs.sN 1 (c' := (29, [.ref 0, .int a1, .int a2, .int a3, vU, vU], [.int (-1)], (zS I20 J tg))) rfl ?_
      subst h
      exact Runs.rt rfl
    · rw [if_neg c26] at h
      refine Runs.brF (P := v19 = 0) (a := 28) (b := 18) (L := [.ref 0, .int a1, .int a2, .int a3, vU, vU]) (S := []) (z := (zS I20 J tg)) rfl c26 ?_
      refine Runs.sN 3 (c' := (22, [.ref 0, .int a1, .int a2, .int a3, vU, vU], [.int 50, .int 0, .int a3], (zS I20 J tg))) rfl ?_
      obtain ⟨v21, I22, c27, h⟩ := h
      refine Runs.cl (cm := 164) (as := [.int a3, .int 0, .int 50]) (rest := []) (r1 := ((some (.int v21)), (zS I22 J tg))) rfl (Nat.le_of_ble_eq_true rfl) c27 ?_
      refine Runs.as (c' := (25, [.ref 0, .int a1, .int a2, .int a3, vU, vU], [.int v21], (zS I22 J tg))) rfl ?_
      by_cases c28 : v21 = 0
      · rw [if_pos c28] at h
        refine Runs.brT (P := v21 = 0) (a := 28) (b := 30) (L := [.ref 0, .int a1, .int a2, .int a3, vU, vU]) (S := []) (z := (zS I22 J tg)) rfl c28 ?_
        refine Runs.sN 1 (c' := (29, [.ref 0, .int a1, .int a2, .int a3, vU, vU], [.int (-1)], (zS I22 J tg))) rfl ?_
        subst h
        exact Runs.rt rfl
      · rw [if_neg c28] at h
        refine Runs.brF (P := v21 = 0) (a := 28) (b := 30) (L := [.ref 0, .int a1, .int a2, .int a3, vU, vU]) (S := []) (z := (zS I22 J tg)) rfl c28 ?_
        refine Runs.sN 8 (c' := (43, [.ref 0, .int a1, .int a2, .int a3, vU, vU], [.int ((a1 * 6) + a2), .ref 12], (zS I22 J tg))) rfl ?_
        obtain ⟨c29, h⟩ := h
        refine Runs.to (c' := (44, [.ref 0, .int a1, .int a2, .int a3, vU, vU], [.int (I22 12 (((a1 * 6) + a2).toNatClampNeg))], (zS I22 J tg))) (Runs.ild rfl (show (12 : Nat) < 114 by decide) rfl c29) ?_
        refine Runs.sN 3 (c' := (49, [.ref 0, .int a1, .int a2, .int a3, .int (I22 12 (((a1 * 6) + a2).toNatClampNeg)), .int 0], [], (zS I22 J tg))) rfl ?_
        exact h
theorem sg_150_49 {L d : Nat} {xs : Nat → Int32} (I : Nat → Nat → Int32) (J : Nat → Nat → Int64) (tg : Option Nat) (x1 : Int32) (x2 : Int32) (x3 : Int32) (x4 : Int32) (x5 : Int32) {r : Option Value × SS} (h : ((if 100 < x5 then (r = (some (.int (-1)), (zS I J tg))) else (∃ (v1 : Int32) (I2 : Nat → Nat → Int32), Runs (GW L xs) d 111 (0, [.ref 7, .int x4, .int x3, vU, vU], [], (zS I J tg)) ((some (.int v1)), (zS I2 J tg)) ∧ (if v1 < 500 then (∃ (v3 : Int32) (I4 : Nat → Nat → Int32), Runs (GW L xs) d 110 (0, [.ref 7, .int x4], [], (zS I2 J tg)) ((some (.int v3)), (zS I4 J tg)) ∧ Runs (GW L xs) (d + 1) 150 (49, [.ref 0, .int x1, .int x2, .int x3, .int v3, .int (x5 + 1)], [], (zS I4 J tg)) r) else (r = (some (.int x5), (zS I2 J tg)))))))) : Runs (GW L xs) (d + 1) 150 (49, [.ref 0, .int x1, .int x2, .int x3, .int x4, .int x5], [], (zS I J tg)) r := by
  refine Runs.sN 2 (c' := (53, [.ref 0, .int x1, .int x2, .int x3, .int x4, .int x5], [.int 100, .int x5], (zS I J tg))) rfl ?_
  by_cases c5 : 100 < x5
  · rw [if_pos c5] at h
    refine Runs.brT (P := 100 < x5) (a := 92) (b := 56) (L := [.ref 0, .int x1, .int x2, .int x3, .int x4, .int x5]) (S := []) (z := (zS I J tg)) rfl c5 ?_
    refine Runs.sN 1 (c' := (93, [.ref 0, .int x1, .int x2, .int x3, .int x4, .int x5], [.int (-1)], (zS I J tg))) rfl ?_
    subst h
    exact Runs.rt rfl
  · rw [if_neg c5] at h
    refine Runs.brF (P := 100 < x5) (a := 92) (b := 56) (L := [.ref 0, .int x1, .int x2, .int x3, .int x4, .int x5]) (S := []) (z := (zS I J tg)) rfl c5 ?_
    refine Runs.sN 4 (c' := (63, [.ref 0, .int x1, .int x2, .int x3, .int x4, .int x5], [.int x3, .int x4, .ref 7], (zS I J tg))) rfl ?_
    obtain ⟨v1, I2, c6, h⟩ := h
    refine Runs.cl (cm := 111) (as := [.ref 7, .int x4, .int x3]) (rest := []) (r1 := ((some (.int v1)), (zS I2 J tg))) rfl (Nat.le_of_ble_eq_true rfl) c6 ?_
    refine Runs.as (c' := (66, [.ref 0, .int x1, .int x2, .int x3, .int x4, .int x5], [.int v1], (zS I2 J tg))) rfl ?_
    refine Runs.sN 1 (c' := (69, [.ref 0, .int x1, .int x2, .int x3, .int x4, .int x5], [.int 500, .int v1], (zS I2 J tg))) rfl ?_
    by_cases c7 : v1 < 500
    · rw [if_pos c7] at h
      refine Runs.brT (P := v1 < 500) (a := 75) (b := 72) (L := [.ref 0, .int x1, .int x2, .int x3, .int x4, .int x5]) (S := []) (z := (zS I2 J tg)) rfl c7 ?_
      refine Runs.sN 3 (c' := (81, [.ref 0, .int x1, .int x2, .int x3, .int x4, .int x5], [.int x4, .ref 7], (zS I2 J tg))) rfl ?_
      obtain ⟨v3, I4, c8, h⟩ := h
      refine Runs.cl (cm := 110) (as := [.ref 7, .int x4]) (rest := []) (r1 := ((some (.int v3)), (zS I4 J tg))) rfl (Nat.le_of_ble_eq_true rfl) c8 ?_
      refine Runs.as (c' := (84, [.ref 0, .int x1, .int x2, .int x3, .int x4, .int x5], [.int v3], (zS I4 J tg))) rfl ?_
      refine Runs.sN 3 (c' := (49, [.ref 0, .int x1, .int x2, .int x3, .int v3, .int (x5 + 1)], [], (zS I4 J tg))) rfl ?_
      exact h
    · rw [if_neg c7] at h
      refine Runs.brF (P := v1 < 500) (a := 75) (b := 72) (L := [.ref 0, .int x1, .int x2, .int x3, .int x4, .int x5]) (S := []) (z := (zS I2 J tg)) rfl c7 ?_
      refine Runs.sN 1 (c' := (74, [.ref 0, .int x1, .int x2, .int x3, .int x4, .int x5], [.int x5], (zS I2 J tg))) rfl ?_
      subst h
      exact Runs.rt rfl
-- X11_anybody 
theorem sg_151 {L d : Nat} {xs : Nat → Int32} (I : Nat → Nat → Int32) (J : Nat → Nat → Int64) (tg : Option Nat) (a1 : Int32) (a2 : Int32) (a3 : Int32) (a4 : Int32) {r : Option Value × SS} (h : (∃ (v10 : Int32) (I11 : Nat → Nat → Int32), Runs (GW L xs) d 44 (0, [.ref 1, .int a1], [], (zS I J tg)) ((some (.int v10)), (zS I11 J tg)) ∧ (if v10 = 0 then (r = (some (.int (-1)), (zS I11 J tg))) else (∃ (v12 : Int32) (I13 : Nat → Nat → Int32), Runs (GW L xs) d 166 (0, [.int a2], [], (zS I11 J tg)) ((some (.int v12)), (zS I13 J tg)) ∧ (if v12 = 0 then (r = (some (.int (-1)), (zS I13 J tg))) else (∃ (v14 : Int32) (I15 : Nat → Nat → Int32), Runs (GW L xs) d 164 (0, [.int a3, .int 0, .int (I13 1 1)], [], (zS I13 J tg)) ((some (.int v14)), (zS I15 J tg)) ∧ (if v14 = 0 then (r = (some (.int (-1)), (zS I15 J tg))) else (∃ (v16 : Int32) (I17 : Nat → Nat → Int32), Runs (GW L xs) d 164 (0, [.int a4, .int 0, .int 1], [], (zS I15 J tg)) ((some (.int v16)), (zS I17 J tg)) ∧ (if v16 = 0 then (r = (some (.int (-1)), (zS I17 J tg))) else (∃ (I18 : Nat → Nat → Int32), Runs (GW L xs) d 107 (0, [.ref 75, .int a1, .int a2, .int a3, vU, vU], [], (zS I17 J tg)) (none, (zS I18 J tg)) ∧ (if a4 = 0 then (r = (some (.int (I18 75 11)), (zS I18 J tg))) else (r = (some (.int (I18 75 12)), (zS I18 J tg)))))))))))))) : Runs (GW L xs) (d + 1) 151 (0, [.ref 0, .int a1, .int a2, .int a3, .int a4], [], (zS I J tg)) r := by
  refine Runs.sN 3 (c' := (5, [.ref 0, .int a1, .int a2, .int a3, .int a4], [.int a1, .ref 1], (zS I J tg))) rfl ?_
  obtain ⟨v10, I11, c19, h⟩ := h
  refine Runs.cl (cm := 44) (as := [.ref 1, .int a1]) (rest := []) (r1 := ((some (.int v10)), (zS I11 J tg))) rfl (Nat.le_of_ble_eq_true rfl) c19 ?_
  refine Runs.as (c' := (8, [.ref 0, .int a1, .int a2, .int a3, .int a4], [.int v10], (zS I11 J tg))) rfl ?_
  by_cases c20 : v10 = 0
  · rw [if_pos c20] at h
    refine Runs.brT (P := v10 = 0) (a := 43) (b := 11) (L := [.ref 0, .int a1, .int a2, .int a3, .int a4]) (S := []) (z := (zS I11 J tg)) rfl c20 ?_
    refine Runs.sN 1 (c' := (44, [.ref 0, .int a1, .int a2, .int a3, .int a4], [.int (-1)], (zS I11 J tg))) rfl ?_
    subst h
    exact Runs.rt rfl
  · rw [if_neg c20] at h
    refine Runs.brF (P := v10 = 0) (a := 43) (b := 11) (L := [.ref 0, .int a1, .int a2, .int a3, .int a4]) (S := []) (z := (zS I11 J tg)) rfl c20 ?_
    refine Runs.sN 1 (c' := (12, [.ref 0, .int a1, .int a2, .int a3, .int a4], [.int a2], (zS I11 J tg))) rfl ?_
    obtain ⟨v12, I13, c21, h⟩ := h
    refine Runs.cl (cm := 166) (as := [.int a2]) (rest := []) (r1 := ((some (.int v12)), (zS I13 J tg))) rfl (Nat.le_of_ble_eq_true rfl) c21 ?_
    refine Runs.as (c' := (15, [.ref 0, .int a1, .int a2, .int a3, .int a4], [.int v12], (zS I13 J tg))) rfl ?_
    by_cases c22 : v12 = 0
    · rw [if_pos c22] at h
      refine Runs.brT (P := v12 = 0) (a := 43) (b := 18) (L := [.ref 0, .int a1, .int a2, .int a3, .int a4]) (S := []) (z := (zS I13 J tg)) rfl c22 ?_
      refine Runs.sN 1 (c' := (44, [.ref 0, .int a1, .int a2, .int a3, .int a4], [.int (-1)], (zS I13 J tg))) rfl ?_
      subst h
      exact Runs.rt rfl
    · rw [if_neg c22] at h
      refine Runs.brF (P := v12 = 0) (a := 43) (b := 18) (L := [.ref 0, .int a1, .int a2, .int a3, .int a4]) (S := []) (z := (zS I13 J tg)) rfl c22 ?_
      refine Runs.sN 5 (c' := (27, [.ref 0, .int a1, .int a2, .int a3, .int a4], [.int (I13 1 1), .int 0, .int a3], (zS I13 J tg))) rfl ?_
      obtain ⟨v14, I15, c23, h⟩ := h
      refine Runs.cl (cm := 164) (as := [.int a3, .int 0, .int (I13 1 1)]) (rest := []) (r1 := ((some (.int v14)), (zS I15 J tg))) rfl (Nat.le_of_ble_eq_true rfl) c23 ?_
      refine Runs.as (c' := (30, [.ref 0, .int a1, .int a2, .int a3, .int a4], [.int v14], (zS I15 J tg))) rfl ?_
      by_cases c24 : v14 = 0
      · rw [if_pos c24] at h
        refine Runs.brT (P := v14 = 0) (a := 43) (b := 33) (L := [.ref 0, .int a1, .int a2, .int a3, .int a4]) (S := []) (z := (zS I15 J tg)) rfl c24 ?_
        refine Runs.sN 1 (c' := (44, [.ref 0, .int a1, .int a2, .int a3, .int a4], [.int (-1)], (zS I15 J tg))) rfl ?_
        subst h
        exact Runs.rt rfl
      · rw [if_neg c24] at h
        refine Runs.brF (P := v14 = 0) (a := 43) (b := 33) (L := [.ref 0, .int a1, .int a2, .int a3, .int a4]) (S := []) (z := (zS I15 J tg)) rfl c24 ?_
        refine Runs.sN 3 (c' := (37, [.ref 0, .int a1, .int a2, .int a3, .int a4], [.int 1, .int 0, .int a4], (zS I15 J tg))) rfl ?_
        obtain ⟨v16, I17, c25, h⟩ := h
        refine Runs.cl (cm := 164) (as := [.int a4, .int 0, .int 1]) (rest := []) (r1 := ((some (.int v16)), (zS I17 J tg))) rfl (Nat.le_of_ble_eq_true rfl) c25 ?_
        refine Runs.as (c' := (40, [.ref 0, .int a1, .int a2, .int a3, .int a4], [.int v16], (zS I17 J tg))) rfl ?_
        by_cases c26 : v16 = 0
        · rw [if_pos c26] at h
          refine Runs.brT (P := v16 = 0) (a := 43) (b := 45) (L := [.ref 0, .int a1, .int a2, .int a3, .int a4]) (S := []) (z := (zS I17 J tg)) rfl c26 ?_
          refine Runs.sN 1 (c' := (44, [.ref 0, .int a1, .int a2, .int a3, .int a4], [.int (-1)], (zS I17 J tg))) rfl ?_
          subst h
          exact Runs.rt rfl
        · rw [if_neg c26] at h
          refine Runs.brF (P := v16 = 0) (a := 43) (b := 45) (L := [.ref 0, .int a1, .int a2, .int a3, .int a4]) (S := []) (z := (zS I17 J tg)) rfl c26 ?_
          refine Runs.sN 5 (c' := (52, [.ref 0, .int a1, .int a2, .int a3, .int a4], [.int a3, .int a2, .int a1, .ref 75], (zS I17 J tg))) rfl ?_
          obtain ⟨I18, c27, h⟩ := h
          refine Runs.cl (cm := 107) (as := [.ref 75, .int a1, .int a2, .int a3]) (rest := []) (r1 := (none, (zS I18 J tg))) rfl (Nat.le_of_ble_eq_true rfl) c27 ?_
          refine Runs.as (c' := (55, [.ref 0, .int a1, .int a2, .int a3, .int a4], [], (zS I18 J tg))) rfl ?_
          refine Runs.sN 1 (c' := (57, [.ref 0, .int a1, .int a2, .int a3, .int a4], [.int a4], (zS I18 J tg))) rfl ?_
          by_cases c28 : a4 = 0
          · rw [if_pos c28] at h
            refine Runs.brT (P := a4 = 0) (a := 60) (b := 70) (L := [.ref 0, .int a1, .int a2, .int a3, .int a4]) (S := []) (z := (zS I18 J tg)) rfl c28 ?_
            refine Runs.sN 4 (c' := (77, [.ref 0, .int a1, .int a2, .int a3, .int a4], [.int (I18 75 11)], (zS I18 J tg))) rfl ?_
            subst h
            exact Runs.rt rfl
          · rw [if_neg c28] at h
            refine Runs.brF (P := a4 = 0) (a := 60) (b := 70) (L := [.ref 0, .int a1, .int a2, .int a3, .int a4]) (S := []) (z := (zS I18 J tg)) rfl c28 ?_
            refine Runs.sN 3 (c' := (77, [.ref 0, .int a1, .int a2, .int a3, .int a4], [.int (I18 75 12)], (zS I18 J tg))) rfl ?_
            subst h
            exact Runs.rt rfl
-- X11_best 
theorem sg_152 {L d : Nat} {xs : Nat → Int32} (I : Nat → Nat → Int32) (J : Nat → Nat → Int64) (tg : Option Nat) (a1 : Int32) (a2 : Int32) (a3 : Int32) {r : Option Value × SS} (h : (∃ (v14 : Int32) (I15 : Nat → Nat → Int32), Runs (GW L xs) d 47 (0, [.ref 1, .int a1], [], (zS I J tg)) ((some (.int v14)), (zS I15 J tg)) ∧ (if v14 = 0 then (r = (some (.int (-1)), (zS I15 J tg))) else (∃ (v16 : Int32) (I17 : Nat → Nat → Int32), Runs (GW L xs) d 166 (0, [.int a2], [], (zS I15 J tg)) ((some (.int v16)), (zS I17 J tg)) ∧ (if v16 = 0 then (r = (some (.int (-1)), (zS I17 J tg))) else (∃ (v18 : Int32) (I19 : Nat → Nat → Int32), Runs (GW L xs) d 164 (0, [.int a3, .int 0, .int (I17 1 1)], [], (zS I17 J tg)) ((some (.int v18)), (zS I19 J tg)) ∧ (if v18 = 0 then (r = (some (.int (-1)), (zS I19 J tg))) else (Runs (GW L xs) (d + 1) 152 (44, [.ref 0, .int a1, .int a2, .int a3, .int (-1), .int 0, .int 0], [], (zS I19 J tg)) r)))))))) : Runs (GW L xs) (d + 1) 152 (0, [.ref 0, .int a1, .int a2, .int a3, vU, vU, vU], [], (zS I J tg)) r := by
  refine Runs.sN 3 (c' := (5, [.ref 0, .int a1, .int a2, .int a3, vU, vU, vU], [.int a1, .ref 1], (zS I J tg))) rfl ?_
  obtain ⟨v14, I15, c20, h⟩ := h
  refine Runs.cl (cm := 47) (as := [.ref 1, .int a1]) (rest := []) (r1 := ((some (.int v14)), (zS I15 J tg))) rfl (Nat.le_of_ble_eq_true rfl) c20 ?_
  refine Runs.as (c' := (8, [.ref 0, .int a1, .int a2, .int a3, vU, vU, vU], [.int v14], (zS I15 J tg))) rfl ?_
  by_cases c21 : v14 = 0
  · rw [if_pos c21] at h
    refine Runs.brT (P := v14 = 0) (a := 33) (b := 11) (L := [.ref 0, .int a1, .int a2, .int a3, vU, vU, vU]) (S := []) (z := (zS I15 J tg)) rfl c21 ?_
    refine Runs.sN 1 (c' := (34, [.ref 0, .int a1, .int a2, .int a3, vU, vU, vU], [.int (-1)], (zS I15 J tg))) rfl ?_
    subst h
    exact Runs.rt rfl
  · rw [if_neg c21] at h
    refine Runs.brF (P := v14 = 0) (a := 33) (b := 11) (L := [.ref 0, .int a1, .int a2, .int a3, vU, vU, vU]) (S := []) (z := (zS I15 J tg)) rfl c21 ?_
    refine Runs.sN 1 (c' := (12, [.ref 0, .int a1, .int a2, .int a3, vU, vU, vU], [.int a2], (zS I15 J tg))) rfl ?_
    obtain ⟨v16, I17, c22, h⟩ := h
    refine Runs.cl (cm := 166) (as := [.int a2]) (rest := []) (r1 := ((some (.int v16)), (zS I17 J tg))) rfl (Nat.le_of_ble_eq_true rfl) c22 ?_
    refine Runs.as (c' := (15, [.ref 0, .int a1, .int a2, .int a3, vU, vU, vU], [.int v16], (zS I17 J tg))) rfl ?_
    by_cases c23 : v16 = 0
    · rw [if_pos c23] at h
      refine Runs.brT (P := v16 = 0) (a := 33) (b := 18) (L := [.ref 0, .int a1, .int a2, .int a3, vU, vU, vU]) (S := []) (z := (zS I17 J tg)) rfl c23 ?_
      refine Runs.sN 1 (c' := (34, [.ref 0, .int a1, .int a2, .int a3, vU, vU, vU], [.int (-1)], (zS I17 J tg))) rfl ?_
      subst h
      exact Runs.rt rfl
    · rw [if_neg c23] at h
      refine Runs.brF (P := v16 = 0) (a := 33) (b := 18) (L := [.ref 0, .int a1, .int a2, .int a3, vU, vU, vU]) (S := []) (z := (zS I17 J tg)) rfl c23 ?_
      refine Runs.sN 5 (c' := (27, [.ref 0, .int a1, .int a2, .int a3, vU, vU, vU], [.int (I17 1 1), .int 0, .int a3], (zS I17 J tg))) rfl ?_
      obtain ⟨v18, I19, c24, h⟩ := h
      refine Runs.cl (cm := 164) (as := [.int a3, .int 0, .int (I17 1 1)]) (rest := []) (r1 := ((some (.int v18)), (zS I19 J tg))) rfl (Nat.le_of_ble_eq_true rfl) c24 ?_
      refine Runs.as (c' := (30, [.ref 0, .int a1, .int a2, .int a3, vU, vU, vU], [.int v18], (zS I19 J tg))) rfl ?_
      by_cases c25 : v18 = 0
      · rw [if_pos c25] at h
        refine Runs.brT (P := v18 = 0) (a := 33) (b := 35) (L := [.ref 0, .int a1, .int a2, .int a3, vU, vU, vU]) (S := []) (z := (zS I19 J tg)) rfl c25 ?_
        refine Runs.sN 1 (c' := (34, [.ref 0, .int a1, .int a2, .int a3, vU, vU, vU], [.int (-1)], (zS I19 J tg))) rfl ?_
        subst h
        exact Runs.rt rfl
      · rw [if_neg c25] at h
        refine Runs.brF (P := v18 = 0) (a := 33) (b := 35) (L := [.ref 0, .int a1, .int a2, .int a3, vU, vU, vU]) (S := []) (z := (zS I19 J tg)) rfl c25 ?_
        refine Runs.sN 6 (c' := (44, [.ref 0, .int a1, .int a2, .int a3, .int (-1), .int 0, .int 0], [], (zS I19 J tg))) rfl ?_
        exact h
theorem sg_152_44 {L d : Nat} {xs : Nat → Int32} (I : Nat → Nat → Int32) (J : Nat → Nat → Int64) (tg : Option Nat) (x1 : Int32) (x2 : Int32) (x3 : Int32) (x4 : Int32) (x5 : Int32) (x6 : Int32) {r : Option Value × SS} (h : ((if (I 1 0) ≤ x6 then (r = (some (.int x4), (zS I J tg))) else ((if ((x1 >>> (x6 &&& 31)) &&& 1) = 0 then (Runs (GW L xs) (d + 1) 152 (44, [.ref 0, .int x1, .int x2, .int x3, .int x4, .int x5, .int (x6 + 1)], [], (zS I J tg)) r) else (∃ (I1 : Nat → Nat → Int32), Runs (GW L xs) d 107 (0, [.ref 75, .int x6, .int x2, .int x3, vU, vU], [], (zS I J tg)) (none, (zS I1 J tg)) ∧ (if x4 = (-1) then (Runs (GW L xs) (d + 1) 152 (44, [.ref 0, .int x1, .int x2, .int x3, .int x6, .int (I1 75 11), .int (x6 + 1)], [], (zS I1 J tg)) r) else ((if x5 ≤ (I1 75 11) then (Runs (GW L xs) (d + 1) 152 (44, [.ref 0, .int x1, .int x2, .int x3, .int x4, .int x5, .int (x6 + 1)], [], (zS I1 J tg)) r) else (Runs (GW L xs) (d + 1) 152 (44, [.ref 0, .int x1, .int x2, .int x3, .int x6, .int (I1 75 11), .int (x6 + 1)], [], (zS I1 J tg)) r)))))))))) : Runs (GW L xs) (d + 1) 152 (44, [.ref 0, .int x1, .int x2, .int x3, .int x4, .int x5, .int x6], [], (zS I J tg)) r := by
  refine Runs.sN 4 (c' := (53, [.ref 0, .int x1, .int x2, .int x3, .int x4, .int x5, .int x6], [.int (I 1 0), .int x6], (zS I J tg))) rfl ?_
  by_cases c2 : (I 1 0) ≤ x6
  · rw [if_pos c2] at h
    refine Runs.brT (P := (I 1 0) ≤ x6) (a := 116) (b := 56) (L := [.ref 0, .int x1, .int x2, .int x3, .int x4, .int x5, .int x6]) (S := []) (z := (zS I J tg)) rfl c2 ?_
    refine Runs.sN 1 (c' := (118, [.ref 0, .int x1, .int x2, .int x3, .int x4, .int x5, .int x6], [.int x4], (zS I J tg))) rfl ?_
    subst h
    exact Runs.rt rfl
  · rw [if_neg c2] at h
    refine Runs.brF (P := (I 1 0) ≤ x6) (a := 116) (b := 56) (L := [.ref 0, .int x1, .int x2, .int x3, .int x4, .int x5, .int x6]) (S := []) (z := (zS I J tg)) rfl c2 ?_
    refine Runs.sN 5 (c' := (62, [.ref 0, .int x1, .int x2, .int x3, .int x4, .int x5, .int x6], [.int ((x1 >>> (x6 &&& 31)) &&& 1)], (zS I J tg))) rfl ?_
    by_cases c3 : ((x1 >>> (x6 &&& 31)) &&& 1) = 0
    · rw [if_pos c3] at h
      refine Runs.brT (P := ((x1 >>> (x6 &&& 31)) &&& 1) = 0) (a := 65) (b := 68) (L := [.ref 0, .int x1, .int x2, .int x3, .int x4, .int x5, .int x6]) (S := []) (z := (zS I J tg)) rfl c3 ?_
      refine Runs.sN 3 (c' := (44, [.ref 0, .int x1, .int x2, .int x3, .int x4, .int x5, .int (x6 + 1)], [], (zS I J tg))) rfl ?_
      exact h
    · rw [if_neg c3] at h
      refine Runs.brF (P := ((x1 >>> (x6 &&& 31)) &&& 1) = 0) (a := 65) (b := 68) (L := [.ref 0, .int x1, .int x2, .int x3, .int x4, .int x5, .int x6]) (S := []) (z := (zS I J tg)) rfl c3 ?_
      refine Runs.sN 5 (c' := (76, [.ref 0, .int x1, .int x2, .int x3, .int x4, .int x5, .int x6], [.int x3, .int x2, .int x6, .ref 75], (zS I J tg))) rfl ?_
      obtain ⟨I1, c4, h⟩ := h
      refine Runs.cl (cm := 107) (as := [.ref 75, .int x6, .int x2, .int x3]) (rest := []) (r1 := (none, (zS I1 J tg))) rfl (Nat.le_of_ble_eq_true rfl) c4 ?_
      refine Runs.as (c' := (79, [.ref 0, .int x1, .int x2, .int x3, .int x4, .int x5, .int x6], [], (zS I1 J tg))) rfl ?_
      refine Runs.sN 2 (c' := (82, [.ref 0, .int x1, .int x2, .int x3, .int x4, .int x5, .int x6], [.int (-1), .int x4], (zS I1 J tg))) rfl ?_
      by_cases c5 : x4 = (-1)
      · rw [if_pos c5] at h
        refine Runs.brT (P := x4 = (-1)) (a := 97) (b := 85) (L := [.ref 0, .int x1, .int x2, .int x3, .int x4, .int x5, .int x6]) (S := []) (z := (zS I1 J tg)) rfl c5 ?_
        refine Runs.sN 8 (c' := (44, [.ref 0, .int x1, .int x2, .int x3, .int x6, .int (I1 75 11), .int (x6 + 1)], [], (zS I1 J tg))) rfl ?_
        exact h
      · rw [if_neg c5] at h
        refine Runs.brF (P := x4 = (-1)) (a := 97) (b := 85) (L := [.ref 0, .int x1, .int x2, .int x3, .int x4, .int x5, .int x6]) (S := []) (z := (zS I1 J tg)) rfl c5 ?_
        refine Runs.sN 4 (c' := (94, [.ref 0, .int x1, .int x2, .int x3, .int x4, .int x5, .int x6], [.int x5, .int (I1 75 11)], (zS I1 J tg))) rfl ?_
        by_cases c6 : x5 ≤ (I1 75 11)
        · rw [if_pos c6] at h
          refine Runs.brT (P := x5 ≤ (I1 75 11)) (a := 110) (b := 97) (L := [.ref 0, .int x1, .int x2, .int x3, .int x4, .int x5, .int x6]) (S := []) (z := (zS I1 J tg)) rfl c6 ?_
          refine Runs.sN 2 (c' := (44, [.ref 0, .int x1, .int x2, .int x3, .int x4, .int x5, .int (x6 + 1)], [], (zS I1 J tg))) rfl ?_
          exact h
        · rw [if_neg c6] at h
          refine Runs.brF (P := x5 ≤ (I1 75 11)) (a := 110) (b := 97) (L := [.ref 0, .int x1, .int x2, .int x3, .int x4, .int x5, .int x6]) (S := []) (z := (zS I1 J tg)) rfl c6 ?_
          refine Runs.sN 8 (c' := (44, [.ref 0, .int x1, .int x2, .int x3, .int x6, .int (I1 75 11), .int (x6 + 1)], [], (zS I1 J tg))) rfl ?_
          exact h
-- X11_days 
theorem sg_153 {L d : Nat} {xs : Nat → Int32} (I : Nat → Nat → Int32) (J : Nat → Nat → Int64) (tg : Option Nat) (a1 : Int32) {r : Option Value × SS} (h : (∃ (v3 : Int32) (I4 : Nat → Nat → Int32), Runs (GW L xs) d 164 (0, [.int a1, .int 1, .int 99], [], (zS I J tg)) ((some (.int v3)), (zS I4 J tg)) ∧ (if v3 = 0 then (r = (some (.int (-1)), (zS I4 J tg))) else ((if ((I4 7 4) + a1) ≤ 999 then (r = (some (.int ((I4 7 4) + a1)), (zS (up2 I4 7 4 ((I4 7 4) + a1)) J tg))) else (r = (some (.int (-1)), (zS I4 J tg)))))))) : Runs (GW L xs) (d + 1) 153 (0, [.ref 0, .int a1], [], (zS I J tg)) r := by
  refine Runs.sN 3 (c' := (4, [.ref 0, .int a1], [.int 99, .int 1, .int a1], (zS I J tg))) rfl ?_
  obtain ⟨v3, I4, c5, h⟩ := h
  refine Runs.cl (cm := 164) (as := [.int a1, .int 1, .int 99]) (rest := []) (r1 := ((some (.int v3)), (zS I4 J tg))) rfl (Nat.le_of_ble_eq_true rfl) c5 ?_
  refine Runs.as (c' := (7, [.ref 0, .int a1], [.int v3], (zS I4 J tg))) rfl ?_
  by_cases c6 : v3 = 0
  · rw [if_pos c6] at h
    refine Runs.brT (P := v3 = 0) (a := 25) (b := 10) (L := [.ref 0, .int a1]) (S := []) (z := (zS I4 J tg)) rfl c6 ?_
    refine Runs.sN 1 (c' := (26, [.ref 0, .int a1], [.int (-1)], (zS I4 J tg))) rfl ?_
    subst h
    exact Runs.rt rfl
  · rw [if_neg c6] at h
    refine Runs.brF (P := v3 = 0) (a := 25) (b := 10) (L := [.ref 0, .int a1]) (S := []) (z := (zS I4 J tg)) rfl c6 ?_
    refine Runs.sN 6 (c' := (22, [.ref 0, .int a1], [.int 999, .int ((I4 7 4) + a1)], (zS I4 J tg))) rfl ?_
    by_cases c7 : ((I4 7 4) + a1) ≤ 999
    · rw [if_pos c7] at h
      refine Runs.brT (P := ((I4 7 4) + a1) ≤ 999) (a := 27) (b := 25) (L := [.ref 0, .int a1]) (S := []) (z := (zS I4 J tg)) rfl c7 ?_
      refine Runs.sN 10 (c' := (47, [.ref 0, .int a1], [.int ((I4 7 4) + a1)], (zS (up2 I4 7 4 ((I4 7 4) + a1)) J tg))) rfl ?_
      subst h
      exact Runs.rt rfl
    · rw [if_neg c7] at h
      refine Runs.brF (P := ((I4 7 4) + a1) ≤ 999) (a := 27) (b := 25) (L := [.ref 0, .int a1]) (S := []) (z := (zS I4 J tg)) rfl c7 ?_
      refine Runs.sN 1 (c' := (26, [.ref 0, .int a1], [.int (-1)], (zS I4 J tg))) rfl ?_
      subst h
      exact Runs.rt rfl
