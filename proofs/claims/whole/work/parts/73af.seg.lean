-- X8_startOne t55
theorem sg_82t55 {L d : Nat} {xs : Nat → Int32} (I : Nat → Nat → Int32) (J : Nat → Nat → Int64) (tg : Option Nat) {r : Option Value × SS} (h : ((if (I 67 12) = 2 then ((if (I 67 13) ≤ 9999 then (∃ (I12 : Nat → Nat → Int32), Runs (GW L xs) d 25 (0, [.ref 55, .int (I 67 13)], [], (zS I J (some 55))) (none, (zS I12 J (some 55))) ∧ Runs (GW L xs) (d + 1) 82 (84, [.ref 67], [], (zS I12 J (some 55))) r) else (r = (some (.int 2), (zS I J (some 55)))))) else ((if (I 67 12) = 3 then ((if (I 67 13) < 8 then (∃ (I13 : Nat → Nat → Int32), Runs (GW L xs) d 25 (0, [.ref 55, .int (10000 + (I 67 13))], [], (zS I J (some 55))) (none, (zS I13 J (some 55))) ∧ Runs (GW L xs) (d + 1) 82 (84, [.ref 67], [], (zS I13 J (some 55))) r) else ((if (I 67 8) = 2 then (∃ (I14 : Nat → Nat → Int32), Runs (GW L xs) d 25 (0, [.ref 55, .int (10000 + (I 67 13))], [], (zS I J (some 55))) (none, (zS I14 J (some 55))) ∧ Runs (GW L xs) (d + 1) 82 (84, [.ref 67], [], (zS I14 J (some 55))) r) else (r = (some (.int 5), (zS I J (some 55)))))))) else (∃ (v15 : Int32) (I16 : Nat → Nat → Int32), Runs (GW L xs) d 83 (0, [.ref 67], [], (zS I J (some 55))) ((some (.int v15)), (zS I16 J (some 55))) ∧ r = (some (.int v15), (zS I16 J (some 55))))))))) : Runs (GW L xs) (d + 1) 82 (0, [.ref 67], [], (zS I J (some 55))) r := by
  refine Runs.sN 3 (c' := (5, [.ref 67], [.int 2, .int (I 67 12)], (zS I J (some 55)))) rfl ?_
  by_cases c17 : (I 67 12) = 2
  · rw [if_pos c17] at h
    refine Runs.brT (P := (I 67 12) = 2) (a := 8) (b := 34) (L := [.ref 67]) (S := []) (z := (zS I J (some 55))) rfl c17 ?_
    refine Runs.sN 3 (c' := (15, [.ref 67], [.int 9999, .int (I 67 13)], (zS I J (some 55)))) rfl ?_
    by_cases c18 : (I 67 13) ≤ 9999
    · rw [if_pos c18] at h
      refine Runs.brT (P := (I 67 13) ≤ 9999) (a := 20) (b := 18) (L := [.ref 67]) (S := []) (z := (zS I J (some 55))) rfl c18 ?_
      refine Runs.sN 4 (c' := (28, [.ref 67], [.int (I 67 13), .ref 55], (zS I J (some 55)))) rfl ?_
      obtain ⟨I12, c19, h⟩ := h
      refine Runs.cl (cm := 25) (as := [.ref 55, .int (I 67 13)]) (rest := []) (r1 := (none, (zS I12 J (some 55)))) rfl (Nat.le_of_ble_eq_true rfl) c19 ?_
      refine Runs.as (c' := (31, [.ref 67], [], (zS I12 J (some 55)))) rfl ?_
      refine Runs.sN 1 (c' := (84, [.ref 67], [], (zS I12 J (some 55)))) rfl ?_
      exact h
    · rw [if_neg c18] at h
      refine Runs.brF (P := (I 67 13) ≤ 9999) (a := 20) (b := 18) (L := [.ref 67]) (S := []) (z := (zS I J (some 55))) rfl c18 ?_
      refine Runs.sN 1 (c' := (19, [.ref 67], [.int 2], (zS I J (some 55)))) rfl ?_
      subst h
      exact Runs.rt rfl
  · rw [if_neg c17] at h
    refine Runs.brF (P := (I 67 12) = 2) (a := 8) (b := 34) (L := [.ref 67]) (S := []) (z := (zS I J (some 55))) rfl c17 ?_
    refine Runs.sN 3 (c' := (39, [.ref 67], [.int 3, .int (I 67 12)], (zS I J (some 55)))) rfl ?_
    by_cases c20 : (I 67 12) = 3
    · rw [if_pos c20] at h
      refine Runs.brT (P := (I 67 12) = 3) (a := 42) (b := 79) (L := [.ref 67]) (S := []) (z := (zS I J (some 55))) rfl c20 ?_
      refine Runs.sN 3 (c' := (48, [.ref 67], [.int 8, .int (I 67 13)], (zS I J (some 55)))) rfl ?_
      by_cases c21 : (I 67 13) < 8
      · rw [if_pos c21] at h
        refine Runs.brT (P := (I 67 13) < 8) (a := 61) (b := 51) (L := [.ref 67]) (S := []) (z := (zS I J (some 55))) rfl c21 ?_
        refine Runs.sN 6 (c' := (73, [.ref 67], [.int (10000 + (I 67 13)), .ref 55], (zS I J (some 55)))) rfl ?_
        obtain ⟨I13, c22, h⟩ := h
        refine Runs.cl (cm := 25) (as := [.ref 55, .int (10000 + (I 67 13))]) (rest := []) (r1 := (none, (zS I13 J (some 55)))) rfl (Nat.le_of_ble_eq_true rfl) c22 ?_
        refine Runs.as (c' := (76, [.ref 67], [], (zS I13 J (some 55)))) rfl ?_
        refine Runs.sN 1 (c' := (84, [.ref 67], [], (zS I13 J (some 55)))) rfl ?_
        exact h
      · rw [if_neg c21] at h
        refine Runs.brF (P := (I 67 13) < 8) (a := 61) (b := 51) (L := [.ref 67]) (S := []) (z := (zS I J (some 55))) rfl c21 ?_
        refine Runs.sN 3 (c' := (56, [.ref 67], [.int 2, .int (I 67 8)], (zS I J (some 55)))) rfl ?_
        by_cases c23 : (I 67 8) = 2
        · rw [if_pos c23] at h
          refine Runs.brT (P := (I 67 8) = 2) (a := 61) (b := 59) (L := [.ref 67]) (S := []) (z := (zS I J (some 55))) rfl c23 ?_
          refine Runs.sN 6 (c' := (73, [.ref 67], [.int (10000 + (I 67 13)), .ref 55], (zS I J (some 55)))) rfl ?_
          obtain ⟨I14, c24, h⟩ := h
          refine Runs.cl (cm := 25) (as := [.ref 55, .int (10000 + (I 67 13))]) (rest := []) (r1 := (none, (zS I14 J (some 55)))) rfl (Nat.le_of_ble_eq_true rfl) c24 ?_
          refine Runs.as (c' := (76, [.ref 67], [], (zS I14 J (some 55)))) rfl ?_
          refine Runs.sN 1 (c' := (84, [.ref 67], [], (zS I14 J (some 55)))) rfl ?_
          exact h
        · rw [if_neg c23] at h
          refine Runs.brF (P := (I 67 8) = 2) (a := 61) (b := 59) (L := [.ref 67]) (S := []) (z := (zS I J (some 55))) rfl c23 ?_
          refine Runs.sN 1 (c' := (60, [.ref 67], [.int 5], (zS I J (some 55)))) rfl ?_
          subst h
          exact Runs.rt rfl
    · rw [if_neg c20] at h
      refine Runs.brF (P := (I 67 12) = 3) (a := 42) (b := 79) (L := [.ref 67]) (S := []) (z := (zS I J (some 55))) rfl c20 ?_
      refine Runs.sN 1 (c' := (80, [.ref 67], [.ref 67], (zS I J (some 55)))) rfl ?_
      obtain ⟨v15, I16, c25, h⟩ := h
      refine Runs.cl (cm := 83) (as := [.ref 67]) (rest := []) (r1 := ((some (.int v15)), (zS I16 J (some 55)))) rfl (Nat.le_of_ble_eq_true rfl) c25 ?_
      refine Runs.as (c' := (83, [.ref 67], [.int v15], (zS I16 J (some 55)))) rfl ?_
      subst h
      exact Runs.rt rfl
theorem sg_82t55_84 {L d : Nat} {xs : Nat → Int32} (I : Nat → Nat → Int32) (J : Nat → Nat → Int64) (tg : Option Nat) {r : Option Value × SS} (h : ((if (I 67 11) ≤ 0 then (r = (some (.int 0), (zS (up2 I 67 7 3) J (some 55)))) else (∃ (I1 : Nat → Nat → Int32), Runs (GW L xs) d 25 (0, [.ref 55, .int 20021], [], (zS I J (some 55))) (none, (zS I1 J (some 55))) ∧ Runs (GW L xs) (d + 1) 82 (84, [.ref 67], [], (zS (up2 I1 67 11 ((I1 67 11) - 1)) J (some 55))) r)))) : Runs (GW L xs) (d + 1) 82 (84, [.ref 67], [], (zS I J (some 55))) r := by
  refine Runs.sN 2 (c' := (88, [.ref 67], [.int (I 67 11)], (zS I J (some 55)))) rfl ?_
  by_cases c2 : (I 67 11) ≤ 0
  · rw [if_pos c2] at h
    refine Runs.brT (P := (I 67 11) ≤ 0) (a := 114) (b := 91) (L := [.ref 67]) (S := []) (z := (zS I J (some 55))) rfl c2 ?_
    refine Runs.sN 4 (c' := (120, [.ref 67], [.int 0], (zS (up2 I 67 7 3) J (some 55)))) rfl ?_
    subst h
    exact Runs.rt rfl
  · rw [if_neg c2] at h
    refine Runs.brF (P := (I 67 11) ≤ 0) (a := 114) (b := 91) (L := [.ref 67]) (S := []) (z := (zS I J (some 55))) rfl c2 ?_
    refine Runs.sN 3 (c' := (98, [.ref 67], [.int 20021, .ref 55], (zS I J (some 55)))) rfl ?_
    obtain ⟨I1, c3, h⟩ := h
    refine Runs.cl (cm := 25) (as := [.ref 55, .int 20021]) (rest := []) (r1 := (none, (zS I1 J (some 55)))) rfl (Nat.le_of_ble_eq_true rfl) c3 ?_
    refine Runs.as (c' := (101, [.ref 67], [], (zS I1 J (some 55)))) rfl ?_
    refine Runs.sN 7 (c' := (84, [.ref 67], [], (zS (up2 I1 67 11 ((I1 67 11) - 1)) J (some 55)))) rfl ?_
    exact h
-- X8_startOne t59
theorem sg_82t59 {L d : Nat} {xs : Nat → Int32} (I : Nat → Nat → Int32) (J : Nat → Nat → Int64) (tg : Option Nat) {r : Option Value × SS} (h : ((if (I 67 12) = 2 then ((if (I 67 13) ≤ 9999 then (∃ (I12 : Nat → Nat → Int32), Runs (GW L xs) d 25 (0, [.ref 59, .int (I 67 13)], [], (zS I J (some 59))) (none, (zS I12 J (some 59))) ∧ Runs (GW L xs) (d + 1) 82 (84, [.ref 67], [], (zS I12 J (some 59))) r) else (r = (some (.int 2), (zS I J (some 59)))))) else ((if (I 67 12) = 3 then ((if (I 67 13) < 8 then (∃ (I13 : Nat → Nat → Int32), Runs (GW L xs) d 25 (0, [.ref 59, .int (10000 + (I 67 13))], [], (zS I J (some 59))) (none, (zS I13 J (some 59))) ∧ Runs (GW L xs) (d + 1) 82 (84, [.ref 67], [], (zS I13 J (some 59))) r) else ((if (I 67 8) = 2 then (∃ (I14 : Nat → Nat → Int32), Runs (GW L xs) d 25 (0, [.ref 59, .int (10000 + (I 67 13))], [], (zS I J (some 59))) (none, (zS I14 J (some 59))) ∧ Runs (GW L xs) (d + 1) 82 (84, [.ref 67], [], (zS I14 J (some 59))) r) else (r = (some (.int 5), (zS I J (some 59)))))))) else (∃ (v15 : Int32) (I16 : Nat → Nat → Int32), Runs (GW L xs) d 83 (0, [.ref 67], [], (zS I J (some 59))) ((some (.int v15)), (zS I16 J (some 59))) ∧ r = (some (.int v15), (zS I16 J (some 59))))))))) : Runs (GW L xs) (d + 1) 82 (0, [.ref 67], [], (zS I J (some 59))) r := by
  refine Runs.sN 3 (c' := (5, [.ref 67], [.int 2, .int (I 67 12)], (zS I J (some 59)))) rfl ?_
  by_cases c17 : (I 67 12) = 2
  · rw [if_pos c17] at h
    refine Runs.brT (P := (I 67 12) = 2) (a := 8) (b := 34) (L := [.ref 67]) (S := []) (z := (zS I J (some 59))) rfl c17 ?_
    refine Runs.sN 3 (c' := (15, [.ref 67], [.int 9999, .int (I 67 13)], (zS I J (some 59)))) rfl ?_
    by_cases c18 : (I 67 13) ≤ 9999
    · rw [if_pos c18] at h
      refine Runs.brT (P := (I 67 13) ≤ 9999) (a := 20) (b := 18) (L := [.ref 67]) (S := []) (z := (zS I J (some 59))) rfl c18 ?_
      refine Runs.sN 4 (c' := (28, [.ref 67], [.int (I 67 13), .ref 59], (zS I J (some 59)))) rfl ?_
      obtain ⟨I12, c19, h⟩ := h
      refine Runs.cl (cm := 25) (as := [.ref 59, .int (I 67 13)]) (rest := []) (r1 := (none, (zS I12 J (some 59)))) rfl (Nat.le_of_ble_eq_true rfl) c19 ?_
      refine Runs.as (c' := (31, [.ref 67], [], (zS I12 J (some 59)))) rfl ?_
      refine Runs.sN 1 (c' := (84, [.ref 67], [], (zS I12 J (some 59)))) rfl ?_
      exact h
    · rw [if_neg c18] at h
      refine Runs.brF (P := (I 67 13) ≤ 9999) (a := 20) (b := 18) (L := [.ref 67]) (S := []) (z := (zS I J (some 59))) rfl c18 ?_
      refine Runs.sN 1 (c' := (19, [.ref 67], [.int 2], (zS I J (some 59)))) rfl ?_
      subst h
      exact Runs.rt rfl
  · rw [if_neg c17] at h
    refine Runs.brF (P := (I 67 12) = 2) (a := 8) (b := 34) (L := [.ref 67]) (S := []) (z := (zS I J (some 59))) rfl c17 ?_
    refine Runs.sN 3 (c' := (39, [.ref 67], [.int 3, .int (I 67 12)], (zS I J (some 59)))) rfl ?_
    by_cases c20 : (I 67 12) = 3
    · rw [if_pos c20] at h
      refine Runs.brT (P := (I 67 12) = 3) (a := 42) (b := 79) (L := [.ref 67]) (S := []) (z := (zS I J (some 59))) rfl c20 ?_
      refine Runs.sN 3 (c' := (48, [.ref 67], [.int 8, .int (I 67 13)], (zS I J (some 59)))) rfl ?_
      by_cases c21 : (I 67 13) < 8
      · rw [if_pos c21] at h
        refine Runs.brT (P := (I 67 13) < 8) (a := 61) (b := 51) (L := [.ref 67]) (S := []) (z := (zS I J (some 59))) rfl c21 ?_
        refine Runs.sN 6 (c' := (73, [.ref 67], [.int (10000 + (I 67 13)), .ref 59], (zS I J (some 59)))) rfl ?_
        obtain ⟨I13, c22, h⟩ := h
        refine Runs.cl (cm := 25) (as := [.ref 59, .int (10000 + (I 67 13))]) (rest := []) (r1 := (none, (zS I13 J (some 59)))) rfl (Nat.le_of_ble_eq_true rfl) c22 ?_
        refine Runs.as (c' := (76, [.ref 67], [], (zS I13 J (some 59)))) rfl ?_
        refine Runs.sN 1 (c' := (84, [.ref 67], [], (zS I13 J (some 59)))) rfl ?_
        exact h
      · rw [if_neg c21] at h
        refine Runs.brF (P := (I 67 13) < 8) (a := 61) (b := 51) (L := [.ref 67]) (S := []) (z := (zS I J (some 59))) rfl c21 ?_
        refine Runs.sN 3 (c' := (56, [.ref 67], [.int 2, .int (I 67 8)], (zS I J (some 59)))) rfl ?_
        by_cases c23 : (I 67 8) = 2
        · rw [if_pos c23] at h
          refine Runs.brT (P := (I 67 8) = 2) (a := 61) (b := 59) (L := [.ref 67]) (S := []) (z := (zS I J (some 59))) rfl c23 ?_
          refine Runs.sN 6 (c' := (73, [.ref 67], [.int (10000 + (I 67 13)), .ref 59], (zS I J (some 59)))) rfl ?_
          obtain ⟨I14, c24, h⟩ := h
          refine Runs.cl (cm := 25) (as := [.ref 59, .int (10000 + (I 67 13))]) (rest := []) (r1 := (none, (zS I14 J (some 59)))) rfl (Nat.le_of_ble_eq_true rfl) c24 ?_
          refine Runs.as (c' := (76, [.ref 67], [], (zS I14 J (some 59)))) rfl ?_
          refine Runs.sN 1 (c' := (84, [.ref 67], [], (zS I14 J (some 59)))) rfl ?_
          exact h
        · rw [if_neg c23] at h
          refine Runs.brF (P := (I 67 8) = 2) (a := 61) (b := 59) (L := [.ref 67]) (S := []) (z := (zS I J (some 59))) rfl c23 ?_
          refine Runs.sN 1 (c' := (60, [.ref 67], [.int 5], (zS I J (some 59)))) rfl ?_
          subst h
          exact Runs.rt rfl
    · rw [if_neg c20] at h
      refine Runs.brF (P := (I 67 12) = 3) (a := 42) (b := 79) (L := [.ref 67]) (S := []) (z := (zS I J (some 59))) rfl c20 ?_
      refine Runs.sN 1 (c' := (80, [.ref 67], [.ref 67], (zS I J (some 59)))) rfl ?_
      obtain ⟨v15, I16, c25, h⟩ := h
      refine Runs.cl (cm := 83) (as := [.ref 67]) (rest := []) (r1 := ((some (.int v15)), (zS I16 J (some 59)))) rfl (Nat.le_of_ble_eq_true rfl) c25 ?_
      refine Runs.as (c' := (83, [.ref 67], [.int v15], (zS I16 J (some 59)))) rfl ?_
      subst h
      exact Runs.rt rfl
theorem sg_82t59_84 {L d : Nat} {xs : Nat → Int32} (I : Nat → Nat → Int32) (J : Nat → Nat → Int64) (tg : Option Nat) {r : Option Value × SS} (h : ((if (I 67 11) ≤ 0 then (r = (some (.int 0), (zS (up2 I 67 7 3) J (some 59)))) else (∃ (I1 : Nat → Nat → Int32), Runs (GW L xs) d 25 (0, [.ref 59, .int 20021], [], (zS I J (some 59))) (none, (zS I1 J (some 59))) ∧ Runs (GW L xs) (d + 1) 82 (84, [.ref 67], [], (zS (up2 I1 67 11 ((I1 67 11) - 1)) J (some 59))) r)))) : Runs (GW L xs) (d + 1) 82 (84, [.ref 67], [], (zS I J (some 59))) r := by
  refine Runs.sN 2 (c' := (88, [.ref 67], [.int (I 67 11)], (zS I J (some 59)))) rfl ?_
  by_cases c2 : (I 67 11) ≤ 0
  · rw [if_pos c2] at h
    refine Runs.brT (P := (I 67 11) ≤ 0) (a := 114) (b := 91) (L := [.ref 67]) (S := []) (z := (zS I J (some 59))) rfl c2 ?_
    refine Runs.sN 4 (c' := (120, [.ref 67], [.int 0], (zS (up2 I 67 7 3) J (some 59)))) rfl ?_
    subst h
    exact Runs.rt rfl
  · rw [if_neg c2] at h
    refine Runs.brF (P := (I 67 11) ≤ 0) (a := 114) (b := 91) (L := [.ref 67]) (S := []) (z := (zS I J (some 59))) rfl c2 ?_
    refine Runs.sN 3 (c' := (98, [.ref 67], [.int 20021, .ref 59], (zS I J (some 59)))) rfl ?_
    obtain ⟨I1, c3, h⟩ := h
    refine Runs.cl (cm := 25) (as := [.ref 59, .int 20021]) (rest := []) (r1 := (none, (zS I1 J (some 59)))) rfl (Nat.le_of_ble_eq_true rfl) c3 ?_
    refine Runs.as (c' := (101, [.ref 67], [], (zS I1 J (some 59)))) rfl ?_
    refine Runs.sN 7 (c' := (84, [.ref 67], [], (zS (up2 I1 67 11 ((I1 67 11) - 1)) J (some 59)))) rfl ?_
    exact h
-- X8_startMinus 
theorem sg_83 {L d : Nat} {xs : Nat → Int32} (I : Nat → Nat → Int32) (J : Nat → Nat → Int64) (tg : Option Nat) {r : Option Value × SS} (h : ((if (I 67 12) = 16 then ((if ((I 67 10) + (I 67 11)) < 8 then (r = (some (.int 0), (zS (up2 (up2 I 67 11 ((I 67 11) + 1)) 67 7 2) J tg))) else (r = (some (.int 3), (zS I J tg))))) else (r = (some (.int 1), (zS I J tg)))))) : Runs (GW L xs) d 83 (0, [.ref 67], [], (zS I J tg)) r := by
  refine Runs.sN 3 (c' := (6, [.ref 67], [.int 16, .int (I 67 12)], (zS I J tg))) rfl ?_
  by_cases c1 : (I 67 12) = 16
  · rw [if_pos c1] at h
    refine Runs.brT (P := (I 67 12) = 16) (a := 11) (b := 9) (L := [.ref 67]) (S := []) (z := (zS I J tg)) rfl c1 ?_
    refine Runs.sN 6 (c' := (22, [.ref 67], [.int 8, .int ((I 67 10) + (I 67 11))], (zS I J tg))) rfl ?_
    by_cases c2 : ((I 67 10) + (I 67 11)) < 8
    · rw [if_pos c2] at h
      refine Runs.brT (P := ((I 67 10) + (I 67 11)) < 8) (a := 27) (b := 25) (L := [.ref 67]) (S := []) (z := (zS I J tg)) rfl c2 ?_
      refine Runs.sN 10 (c' := (43, [.ref 67], [.int 0], (zS (up2 (up2 I 67 11 ((I 67 11) + 1)) 67 7 2) J tg))) rfl ?_
      subst h
      exact Runs.rt rfl
    · rw [if_neg c2] at h
      refine Runs.brF (P := ((I 67 10) + (I 67 11)) < 8) (a := 27) (b := 25) (L := [.ref 67]) (S := []) (z := (zS I J tg)) rfl c2 ?_
      refine Runs.sN 1 (c' := (26, [.ref 67], [.int 3], (zS I J tg))) rfl ?_
      subst h
      exact Runs.rt rfl
  · rw [if_neg c1] at h
    refine Runs.brF (P := (I 67 12) = 16) (a := 11) (b := 9) (L := [.ref 67]) (S := []) (z := (zS I J tg)) rfl c1 ?_
    refine Runs.sN 1 (c' := (10, [.ref 67], [.int 1], (zS I J tg))) rfl ?_
    subst h
    exact Runs.rt rfl
-- X8_followOne 
theorem sg_84 {L d : Nat} {xs : Nat → Int32} (I : Nat → Nat → Int32) (J : Nat → Nat → Int64) (tg : Option Nat) {r : Option Value × SS} (h : ((if (I 67 12) < 15 then ((if (I 67 8) = 0 then ((if (I 67 12) < 9 then (r = (some (.int 1), (zS I J tg))) else ((if (I 67 12) ≤ 14 then (∃ (I12 : Nat → Nat → Int32), Runs (GW L xs) d 86 (0, [.ref 67], [], (zS I J tg)) (none, (zS I12 J tg)) ∧ r = (some (.int 0), (zS (up2 (up2 I12 67 8 1) 67 7 2) J tg))) else (r = (some (.int 1), (zS I J tg))))))) else ((if (I 67 8) = 1 then (∃ (v13 : Int32) (I14 : Nat → Nat → Int32), Runs (GW L xs) d 85 (0, [.ref 67], [], (zS I J tg)) ((some (.int v13)), (zS I14 J tg)) ∧ r = (some (.int v13), (zS I14 J tg))) else ((if (I 67 12) = 20 then (∃ (v15 : Int32) (I16 : Nat → Nat → Int32), Runs (GW L xs) d 85 (0, [.ref 67], [], (zS I J tg)) ((some (.int v15)), (zS I16 J tg)) ∧ r = (some (.int v15), (zS I16 J tg))) else (r = (some (.int 1), (zS I J tg))))))))) else ((if 17 < (I 67 12) then ((if (I 67 8) = 0 then ((if (I 67 12) < 9 then (r = (some (.int 1), (zS I J tg))) else ((if (I 67 12) ≤ 14 then (∃ (I17 : Nat → Nat → Int32), Runs (GW L xs) d 86 (0, [.ref 67], [], (zS I J tg)) (none, (zS I17 J tg)) ∧ r = (some (.int 0), (zS (up2 (up2 I17 67 8 1) 67 7 2) J tg))) else (r = (some (.int 1), (zS I J tg))))))) else ((if (I 67 8) = 1 then (∃ (v18 : Int32) (I19 : Nat → Nat → Int32), Runs (GW L xs) d 85 (0, [.ref 67], [], (zS I J tg)) ((some (.int v18)), (zS I19 J tg)) ∧ r = (some (.int v18), (zS I19 J tg))) else ((if (I 67 12) = 20 then (∃ (v20 : Int32) (I21 : Nat → Nat → Int32), Runs (GW L xs) d 85 (0, [.ref 67], [], (zS I J tg)) ((some (.int v20)), (zS I21 J tg)) ∧ r = (some (.int v20), (zS I21 J tg))) else (r = (some (.int 1), (zS I J tg))))))))) else (∃ (I22 : Nat → Nat → Int32), Runs (GW L xs) d 86 (0, [.ref 67], [], (zS I J tg)) (none, (zS I22 J tg)) ∧ r = (some (.int 0), (zS (up2 I22 67 7 2) J tg)))))))) : Runs (GW L xs) (d + 1) 84 (0, [.ref 67], [], (zS I J tg)) r := by
  refine Runs.sN 3 (c' := (6, [.ref 67], [.int 15, .int (I 67 12)], (zS I J tg))) rfl ?_
  by_cases c23 : (I 67 12) < 15
  · rw [if_pos c23] at h
    refine Runs.brT (P := (I 67 12) < 15) (a := 29) (b := 9) (L := [.ref 67]) (S := []) (z := (zS I J tg)) rfl c23 ?_
    refine Runs.sN 2 (c' := (33, [.ref 67], [.int (I 67 8)], (zS I J tg))) rfl ?_
    by_cases c24 : (I 67 8) = 0
    · rw [if_pos c24] at h
      refine Runs.brT (P := (I 67 8) = 0) (a := 36) (b := 72) (L := [.ref 67]) (S := []) (z := (zS I J tg)) rfl c24 ?_
      refine Runs.sN 3 (c' := (42, [.ref 67], [.int 9, .int (I 67 12)], (zS I J tg))) rfl ?_
      by_cases c25 : (I 67 12) < 9
      · rw [if_pos c25] at h
        refine Runs.brT (P := (I 67 12) < 9) (a := 54) (b := 45) (L := [.ref 67]) (S := []) (z := (zS I J tg)) rfl c25 ?_
        refine Runs.sN 1 (c' := (55, [.ref 67], [.int 1], (zS I J tg))) rfl ?_
        subst h
        exact Runs.rt rfl
      · rw [if_neg c25] at h
        refine Runs.brF (P := (I 67 12) < 9) (a := 54) (b := 45) (L := [.ref 67]) (S := []) (z := (zS I J tg)) rfl c25 ?_
        refine Runs.sN 3 (c' := (51, [.ref 67], [.int 14, .int (I 67 12)], (zS I J tg))) rfl ?_
        by_cases c26 : (I 67 12) ≤ 14
        · rw [if_pos c26] at h
          refine Runs.brT (P := (I 67 12) ≤ 14) (a := 56) (b := 54) (L := [.ref 67]) (S := []) (z := (zS I J tg)) rfl c26 ?_
          refine Runs.sN 1 (c' := (57, [.ref 67], [.ref 67], (zS I J tg))) rfl ?_
          obtain ⟨I12, c27, h⟩ := h
          refine Runs.cl (cm := 86) (as := [.ref 67]) (rest := []) (r1 := (none, (zS I12 J tg))) rfl (Nat.le_of_ble_eq_true rfl) c27 ?_
          refine Runs.as (c' := (60, [.ref 67], [], (zS I12 J tg))) rfl ?_
          refine Runs.sN 7 (c' := (71, [.ref 67], [.int 0], (zS (up2 (up2 I12 67 8 1) 67 7 2) J tg))) rfl ?_
          subst h
          exact Runs.rt rfl
        · rw [if_neg c26] at h
          refine Runs.brF (P := (I 67 12) ≤ 14) (a := 56) (b := 54) (L := [.ref 67]) (S := []) (z := (zS I J tg)) rfl c26 ?_
          refine Runs.sN 1 (c' := (55, [.ref 67], [.int 1], (zS I J tg))) rfl ?_
          subst h
          exact Runs.rt rfl
    · rw [if_neg c24] at h
      refine Runs.brF (P := (I 67 8) = 0) (a := 36) (b := 72) (L := [.ref 67]) (S := []) (z := (zS I J tg)) rfl c24 ?_
      refine Runs.sN 3 (c' := (77, [.ref 67], [.int 1, .int (I 67 8)], (zS I J tg))) rfl ?_
      by_cases c28 : (I 67 8) = 1
      · rw [if_pos c28] at h
        refine Runs.brT (P := (I 67 8) = 1) (a := 89) (b := 80) (L := [.ref 67]) (S := []) (z := (zS I J tg)) rfl c28 ?_
        refine Runs.sN 1 (c' := (90, [.ref 67], [.ref 67], (zS I J tg))) rfl ?_
        obtain ⟨v13, I14, c29, h⟩ := h
        refine Runs.cl (cm := 85) (as := [.ref 67]) (rest := []) (r1 := ((some (.int v13)), (zS I14 J tg))) rfl (Nat.le_of_ble_eq_true rfl) c29 ?_
        refine Runs.as (c' := (93, [.ref 67], [.int v13], (zS I14 J tg))) rfl ?_
        refine Runs.sN 1 (c' := (97, [.ref 67], [.int v13], (zS I14 J tg))) rfl ?_
        subst h
        exact Runs.rt rfl
      · rw [if_neg c28] at h
        refine Runs.brF (P := (I 67 8) = 1) (a := 89) (b := 80) (L := [.ref 67]) (S := []) (z := (zS I J tg)) rfl c28 ?_
        refine Runs.sN 3 (c' := (86, [.ref 67], [.int 20, .int (I 67 12)], (zS I J tg))) rfl ?_
        by_cases c30 : (I 67 12) = 20
        · rw [if_pos c30] at h
          refine Runs.brT (P := (I 67 12) = 20) (a := 89) (b := 96) (L := [.ref 67]) (S := []) (z := (zS I J tg)) rfl c30 ?_
          refine Runs.sN 1 (c' := (90, [.ref 67], [.ref 67], (zS I J tg))) rfl ?_
          obtain ⟨v15, I16, c31, h⟩ := h
          refine Runs.cl (cm := 85) (as := [.ref 67]) (rest := []) (r1 := ((some (.int v15)), (zS I16 J tg))) rfl (Nat.le_of_ble_eq_true rfl) c31 ?_
          refine Runs.as (c' := (93, [.ref 67], [.int v15], (zS I16 J tg))) rfl ?_
          refine Runs.sN 1 (c' := (97, [.ref 67], [.int v15], (zS I16 J tg))) rfl ?_
          subst h
          exact Runs.rt rfl
        · rw [if_neg c30] at h
          refine Runs.brF (P := (I 67 12) = 20) (a := 89) (b := 96) (L := [.ref 67]) (S := []) (z := (zS I J tg)) rfl c30 ?_
          refine Runs.sN 1 (c' := (97, [.ref 67], [.int 1], (zS I J tg))) rfl ?_
          subst h
          exact Runs.rt rfl
  · rw [if_neg c23] at h
    refine Runs.brF (P := (I 67 12) < 15) (a := 29) (b := 9) (L := [.ref 67]) (S := []) (z := (zS I J tg)) rfl c23 ?_
    refine Runs.sN 3 (c' := (15, [.ref 67], [.int 17, .int (I 67 12)], (zS I J tg))) rfl ?_
    by_cases c32 : 17 < (I 67 12)
    · rw [if_pos c32] at h
      refine Runs.brT (P := 17 < (I 67 12)) (a := 29) (b := 18) (L := [.ref 67]) (S := []) (z := (zS I J tg)) rfl c32 ?_
      refine Runs.sN 2 (c' := (33, [.ref 67], [.int (I 67 8)], (zS I J tg))) rfl ?_
      by_cases c33 : (I 67 8) = 0
      · rw [if_pos c33] at h
        refine Runs.brT (P := (I 67 8) = 0) (a := 36) (b := 72) (L := [.ref 67]) (S := []) (z := (zS I J tg)) rfl c33 ?_
        refine Runs.sN 3 (c' := (42, [.ref 67], [.int 9, .int (I 67 12)], (zS I J tg))) rfl ?_
        by_cases c34 : (I 67 12) < 9
        · rw [if_pos c34] at h
          refine Runs.brT (P := (I 67 12) < 9) (a := 54) (b := 45) (L := [.ref 67]) (S := []) (z := (zS I J tg)) rfl c34 ?_
          refine Runs.sN 1 (c' := (55, [.ref 67], [.int 1], (zS I J tg))) rfl ?_
          subst h
          exact Runs.rt rfl
        · rw [if_neg c34] at h
          refine Runs.brF (P := (I 67 12) < 9) (a := 54) (b := 45) (L := [.ref 67]) (S := []) (z := (zS I J tg)) rfl c34 ?_
          refine Runs.sN 3 (c' := (51, [.ref 67], [.int 14, .int (I 67 12)], (zS I J tg))) rfl ?_
          by_cases c35 : (I 67 12) ≤ 14
          · rw [if_pos c35] at h
            refine Runs.brT (P := (I 67 12) ≤ 14) (a := 56) (b := 54) (L := [.ref 67]) (S := []) (z := (zS I J tg)) rfl c35 ?_
            refine Runs.sN 1 (c' := (57, [.ref 67], [.ref 67], (zS I J tg))) rfl ?_
            obtain ⟨I17, c36, h⟩ := h
            refine Runs.cl (cm := 86) (as := [.ref 67]) (rest := []) (r1 := (none, (zS I17 J tg))) rfl (Nat.le_of_ble_eq_true rfl) c36 ?_
            refine Runs.as (c' := (60, [.ref 67], [], (zS I17 J tg))) rfl ?_
            refine Runs.sN 7 (c' := (71, [.ref 67], [.int 0], (zS (up2 (up2 I17 67 8 1) 67 7 2) J tg))) rfl ?_
            subst h
            exact Runs.rt rfl
          · rw [if_neg c35] at h
            refine Runs.brF (P := (I 67 12) ≤ 14) (a := 56) (b := 54) (L := [.ref 67]) (S := []) (z := (zS I J tg)) rfl c35 ?_
            refine Runs.sN 1 (c' := (55, [.ref 67], [.int 1], (zS I J tg))) rfl ?_
            subst h
            exact Runs.rt rfl
      · rw [if_neg c33] at h
        refine Runs.brF (P := (I 67 8) = 0) (a := 36) (b := 72) (L := [.ref 67]) (S := []) (z := (zS I J tg)) rfl c33 ?_
        refine Runs.sN 3 (c' := (77, [.ref 67], [.int 1, .int (I 67 8)], (zS I J tg))) rfl ?_
        by_cases c37 : (I 67 8) = 1
        · rw [if_pos c37] at h
          refine Runs.brT (P := (I 67 8) = 1) (a := 89) (b := 80) (L := [.ref 67]) (S := []) (z := (zS I J tg)) rfl c37 ?_
          refine Runs.sN 1 (c' := (90, [.ref 67], [.ref 67], (zS I J tg))) rfl ?_
          obtain ⟨v18, I19, c38, h⟩ := h
          refine Runs.cl (cm := 85) (as := [.ref 67]) (rest := []) (r1 := ((some (.int v18)), (zS I19 J tg))) rfl (Nat.le_of_ble_eq_true rfl) c38 ?_
          refine Runs.as (c' := (93, [.ref 67], [.int v18], (zS I19 J tg))) rfl ?_
          refine Runs.sN 1 (c' := (97, [.ref 67], [.int v18], (zS I19 J tg))) rfl ?_
          subst h
          exact Runs.rt rfl
        · rw [if_neg c37] at h
          refine Runs.brF (P := (I 67 8) = 1) (a := 89) (b := 80) (L := [.ref 67]) (S := []) (z := (zS I J tg)) rfl c37 ?_
          refine Runs.sN 3 (c' := (86, [.ref 67], [.int 20, .int (I 67 12)], (zS I J tg))) rfl ?_
          by_cases c39 : (I 67 12) = 20
          · rw [if_pos c39] at h
            refine Runs.brT (P := (I 67 12) = 20) (a := 89) (b := 96) (L := [.ref 67]) (S := []) (z := (zS I J tg)) rfl c39 ?_
            refine Runs.sN 1 (c' := (90, [.ref 67], [.ref 67], (zS I J tg))) rfl ?_
            obtain ⟨v20, I21, c40, h⟩ := h
            refine Runs.cl (cm := 85) (as := [.ref 67]) (rest := []) (r1 := ((some (.int v20)), (zS I21 J tg))) rfl (Nat.le_of_ble_eq_true rfl) c40 ?_
            refine Runs.as (c' := (93, [.ref 67], [.int v20], (zS I21 J tg))) rfl ?_
            refine Runs.sN 1 (c' := (97, [.ref 67], [.int v20], (zS I21 J tg))) rfl ?_
            subst h
            exact Runs.rt rfl
          · rw [if_neg c39] at h
            refine Runs.brF (P := (I 67 12) = 20) (a := 89) (b := 96) (L := [.ref 67]) (S := []) (z := (zS I J tg)) rfl c39 ?_
            refine Runs.sN 1 (c' := (97, [.ref 67], [.int 1], (zS I J tg))) rfl ?_
            subst h
            exact Runs.rt rfl
    · rw [if_neg c32] at h
      refine Runs.brF (P := 17 < (I 67 12)) (a := 29) (b := 18) (L := [.ref 67]) (S := []) (z := (zS I J tg)) rfl c32 ?_
      refine Runs.sN 1 (c' := (19, [.ref 67], [.ref 67], (zS I J tg))) rfl ?_
      obtain ⟨I22, c41, h⟩ := h
      refine Runs.cl (cm := 86) (as := [.ref 67]) (rest := []) (r1 := (none, (zS I22 J tg))) rfl (Nat.le_of_ble_eq_true rfl) c41 ?_
      refine Runs.as (c' := (22, [.ref 67], [], (zS I22 J tg))) rfl ?_
      refine Runs.sN 4 (c' := (28, [.ref 67], [.int 0], (zS (up2 I22 67 7 2) J tg))) rfl ?_
      subst h
      exact Runs.rt rfl
-- X8_followAsk t47
theorem sg_85t47 {L d : Nat} {xs : Nat → Int32} (I : Nat → Nat → Int32) (J : Nat → Nat → Int64) (tg : Option Nat) {r : Option Value × SS} (h : ((if (I 67 12) = 7 then (∃ (I8 : Nat → Nat → Int32), Runs (GW L xs) d 86 (0, [.ref 67], [], (zS I J (some 47))) (none, (zS I8 J (some 47))) ∧ r = (some (.int 0), (zS (up2 I8 67 7 1) J (some 47)))) else ((if (I 67 12) = 8 then (∃ (I9 : Nat → Nat → Int32), Runs (GW L xs) d 86 (0, [.ref 67], [], (zS I J (some 47))) (none, (zS I9 J (some 47))) ∧ r = (some (.int 0), (zS (up2 I9 67 7 1) J (some 47)))) else ((if (I 67 12) = 19 then ((if (I 67 10) ≤ 0 then ((if (I 67 12) = 20 then ((if (I 67 10) = 0 then (∃ (I10 : Nat → Nat → Int32), Runs (GW L xs) d 88 (0, [.ref 67, .int 1], [], (zS I J (some 47))) (none, (zS I10 J (some 47))) ∧ ∃ (I11 : Nat → Nat → Int32), Runs (GW L xs) d 24 (0, [.ref 47], [], (zS I10 J (some 47))) (none, (zS I11 J (some 47))) ∧ r = (some (.int 0), (zS (up2 I11 67 7 0) J (some 47)))) else (r = (some (.int 1), (zS I J (some 47)))))) else (r = (some (.int 1), (zS I J (some 47)))))) else (∃ (I12 : Nat → Nat → Int32), Runs (GW L xs) d 88 (0, [.ref 67, .int 1], [], (zS I J (some 47))) (none, (zS I12 J (some 47))) ∧ r = (some (.int 0), (zS (up2 (up2 (up2 I12 67 9 ((I12 67 9) - 1)) 67 10 ((I12 67 10) - 1)) 67 7 4) J (some 47)))))) else ((if (I 67 12) = 20 then ((if (I 67 10) = 0 then (∃ (I13 : Nat → Nat → Int32), Runs (GW L xs) d 88 (0, [.ref 67, .int 1], [], (zS I J (some 47))) (none, (zS I13 J (some 47))) ∧ ∃ (I14 : Nat → Nat → Int32), Runs (GW L xs) d 24 (0, [.ref 47], [], (zS I13 J (some 47))) (none, (zS I14 J (some 47))) ∧ r = (some (.int 0), (zS (up2 I14 67 7 0) J (some 47)))) else (r = (some (.int 1), (zS I J (some 47)))))) else (r = (some (.int 1), (zS I J (some 47))))))))))))) : Runs (GW L xs) (d + 1) 85 (0, [.ref 67], [], (zS I J (some 47))) r := by
  refine Runs.sN 3 (c' := (6, [.ref 67], [.int 7, .int (I 67 12)], (zS I J (some 47)))) rfl ?_
  by_cases c15 : (I 67 12) = 7
  · rw [if_pos c15] at h
    refine Runs.brT (P := (I 67 12) = 7) (a := 18) (b := 9) (L := [.ref 67]) (S := []) (z := (zS I J (some 47))) rfl c15 ?_
    refine Runs.sN 1 (c' := (19, [.ref 67], [.ref 67], (zS I J (some 47)))) rfl ?_
    obtain ⟨I8, c16, h⟩ := h
    refine Runs.cl (cm := 86) (as := [.ref 67]) (rest := []) (r1 := (none, (zS I8 J (some 47)))) rfl (Nat.le_of_ble_eq_true rfl) c16 ?_
    refine Runs.as (c' := (22, [.ref 67], [], (zS I8 J (some 47)))) rfl ?_
    refine Runs.sN 4 (c' := (28, [.ref 67], [.int 0], (zS (up2 I8 67 7 1) J (some 47)))) rfl ?_
    subst h
    exact Runs.rt rfl
  · rw [if_neg c15] at h
    refine Runs.brF (P := (I 67 12) = 7) (a := 18) (b := 9) (L := [.ref 67]) (S := []) (z := (zS I J (some 47))) rfl c15 ?_
    refine Runs.sN 3 (c' := (15, [.ref 67], [.int 8, .int (I 67 12)], (zS I J (some 47)))) rfl ?_
    by_cases c17 : (I 67 12) = 8
    · rw [if_pos c17] at h
      refine Runs.brT (P := (I 67 12) = 8) (a := 18) (b := 29) (L := [.ref 67]) (S := []) (z := (zS I J (some 47))) rfl c17 ?_
      refine Runs.sN 1 (c' := (19, [.ref 67], [.ref 67], (zS I J (some 47)))) rfl ?_
      obtain ⟨I9, c18, h⟩ := h
      refine Runs.cl (cm := 86) (as := [.ref 67]) (rest := []) (r1 := (none, (zS I9 J (some 47)))) rfl (Nat.le_of_ble_eq_true rfl) c18 ?_
      refine Runs.as (c' := (22, [.ref 67], [], (zS I9 J (some 47)))) rfl ?_
      refine Runs.sN 4 (c' := (28, [.ref 67], [.int 0], (zS (up2 I9 67 7 1) J (some 47)))) rfl ?_
      subst h
      exact Runs.rt rfl
    · rw [if_neg c17] at h
      refine Runs.brF (P := (I 67 12) = 8) (a := 18) (b := 29) (L := [.ref 67]) (S := []) (z := (zS I J (some 47))) rfl c17 ?_
      refine Runs.sN 3 (c' := (35, [.ref 67], [.int 19, .int (I 67 12)], (zS I J (some 47)))) rfl ?_
      by_cases c19 : (I 67 12) = 19
      · rw [if_pos c19] at h
        refine Runs.brT (P := (I 67 12) = 19) (a := 38) (b := 77) (L := [.ref 67]) (S := []) (z := (zS I J (some 47))) rfl c19 ?_
        refine Runs.sN 2 (c' := (42, [.ref 67], [.int (I 67 10)], (zS I J (some 47)))) rfl ?_
        by_cases c20 : (I 67 10) ≤ 0
        · rw [if_pos c20] at h
          refine Runs.brT (P := (I 67 10) ≤ 0) (a := 77) (b := 45) (L := [.ref 67]) (S := []) (z := (zS I J (some 47))) rfl c20 ?_
          refine Runs.sN 3 (c' := (83, [.ref 67], [.int 20, .int (I 67 12)], (zS I J (some 47)))) rfl ?_
          by_cases c21 : (I 67 12) = 20
          · rw [if_pos c21] at h
            refine Runs.brT (P := (I 67 12) = 20) (a := 86) (b := 112) (L := [.ref 67]) (S := []) (z := (zS I J (some 47))) rfl c21 ?_
            refine Runs.sN 2 (c' := (90, [.ref 67], [.int (I 67 10)], (zS I J (some 47)))) rfl ?_
            by_cases c22 : (I 67 10) = 0
            · rw [if_pos c22] at h
              refine Runs.brT (P := (I 67 10) = 0) (a := 93) (b := 112) (L := [.ref 67]) (S := []) (z := (zS I J (some 47))) rfl c22 ?_
              refine Runs.sN 2 (c' := (95, [.ref 67], [.int 1, .ref 67], (zS I J (some 47)))) rfl ?_
              obtain ⟨I10, c23, h⟩ := h
              refine Runs.cl (cm := 88) (as := [.ref 67, .int 1]) (rest := []) (r1 := (none, (zS I10 J (some 47)))) rfl (Nat.le_of_ble_eq_true rfl) c23 ?_
              refine Runs.as (c' := (98, [.ref 67], [], (zS I10 J (some 47)))) rfl ?_
              refine Runs.sN 2 (c' := (102, [.ref 67], [.ref 47], (zS I10 J (some 47)))) rfl ?_
              obtain ⟨I11, c24, h⟩ := h
              refine Runs.cl (cm := 24) (as := [.ref 47]) (rest := []) (r1 := (none, (zS I11 J (some 47)))) rfl (Nat.le_of_ble_eq_true rfl) c24 ?_
              refine Runs.as (c' := (105, [.ref 67], [], (zS I11 J (some 47)))) rfl ?_
              refine Runs.sN 4 (c' := (111, [.ref 67], [.int 0], (zS (up2 I11 67 7 0) J (some 47)))) rfl ?_
              subst h
              exact Runs.rt rfl
            · rw [if_neg c22] at h
              refine Runs.brF (P := (I 67 10) = 0) (a := 93) (b := 112) (L := [.ref 67]) (S := []) (z := (zS I J (some 47))) rfl c22 ?_
              refine Runs.sN 1 (c' := (113, [.ref 67], [.int 1], (zS I J (some 47)))) rfl ?_
              subst h
              exact Runs.rt rfl
          · rw [if_neg c21] at h
            refine Runs.brF (P := (I 67 12) = 20) (a := 86) (b := 112) (L := [.ref 67]) (S := []) (z := (zS I J (some 47))) rfl c21 ?_
            refine Runs.sN 1 (c' := (113, [.ref 67], [.int 1], (zS I J (some 47)))) rfl ?_
            subst h
            exact Runs.rt rfl
        · rw [if_neg c20] at h
          refine Runs.brF (P := (I 67 10) ≤ 0) (a := 77) (b := 45) (L := [.ref 67]) (S := []) (z := (zS I J (some 47))) rfl c20 ?_
          refine Runs.sN 2 (c' := (47, [.ref 67], [.int 1, .ref 67], (zS I J (some 47)))) rfl ?_
          obtain ⟨I12, c25, h⟩ := h
          refine Runs.cl (cm := 88) (as := [.ref 67, .int 1]) (rest := []) (r1 := (none, (zS I12 J (some 47)))) rfl (Nat.le_of_ble_eq_true rfl) c25 ?_
          refine Runs.as (c' := (50, [.ref 67], [], (zS I12 J (some 47)))) rfl ?_
          refine Runs.sN 16 (c' := (76, [.ref 67], [.int 0], (zS (up2 (up2 (up2 I12 67 9 ((I12 67 9) - 1)) 67 10 ((I12 67 10) - 1)) 67 7 4) J (some 47)))) rfl ?_
          subst h
          exact Runs.rt rfl
      · rw [if_neg c19] at h
        refine Runs.brF (P := (I 67 12) = 19) (a := 38) (b := 77) (L := [.ref 67]) (S := []) (z := (zS I J (some 47))) rfl c19 ?_
        refine Runs.sN 3 (c' := (83, [.ref 67], [.int 20, .int (I 67 12)], (zS I J (some 47)))) rfl ?_
        by_cases c26 : (I 67 12) = 20
        · rw [if_pos c26] at h
          refine Runs.brT (P := (I 67 12) = 20) (a := 86) (b := 112) (L := [.ref 67]) (S := []) (z := (zS I J (some 47))) rfl c26 ?_
          refine Runs.sN 2 (c' := (90, [.ref 67], [.int (I 67 10)], (zS I J (some 47)))) rfl ?_
          by_cases c27 : (I 67 10) = 0
          · rw [if_pos c27] at h
            refine Runs.brT (P := (I 67 10) = 0) (a := 93) (b := 112) (L := [.ref 67]) (S := []) (z := (zS I J (some 47))) rfl c27 ?_
            refine Runs.sN 2 (c' := (95, [.ref 67], [.int 1, .ref 67], (zS I J (some 47)))) rfl ?_
            obtain ⟨I13, c28, h⟩ := h
            refine Runs.cl (cm := 88) (as := [.ref 67, .int 1]) (rest := []) (r1 := (none, (zS I13 J (some 47)))) rfl (Nat.le_of_ble_eq_true rfl) c28 ?_
            refine Runs.as (c' := (98, [.ref 67], [], (zS I13 J (some 47)))) rfl ?_
            refine Runs.sN 2 (c' := (102, [.ref 67], [.ref 47], (zS I13 J (some 47)))) rfl ?_
            obtain ⟨I14, c29, h⟩ := h
            refine Runs.cl (cm := 24) (as := [.ref 47]) (rest := []) (r1 := (none, (zS I14 J (some 47)))) rfl (Nat.le_of_ble_eq_true rfl) c29 ?_
            refine Runs.as (c' := (105, [.ref 67], [], (zS I14 J (some 47)))) rfl ?_
            refine Runs.sN 4 (c' := (111, [.ref 67], [.int 0], (zS (up2 I14 67 7 0) J (some 47)))) rfl ?_
            subst h
            exact Runs.rt rfl
          · rw [if_neg c27] at h
            refine Runs.brF (P := (I 67 10) = 0) (a := 93) (b := 112) (L := [.ref 67]) (S := []) (z := (zS I J (some 47))) rfl c27 ?_
            refine Runs.sN 1 (c' := (113, [.ref 67], [.int 1], (zS I J (some 47)))) rfl ?_
            subst h
            exact Runs.rt rfl
        · rw [if_neg c26] at h
          refine Runs.brF (P := (I 67 12) = 20) (a := 86) (b := 112) (L := [.ref 67]) (S := []) (z := (zS I J (some 47))) rfl c26 ?_
          refine Runs.sN 1 (c' := (113, [.ref 67], [.int 1], (zS I J (some 47)))) rfl ?_
          subst h
          exact Runs.rt rfl
-- X8_followAsk t51
theorem sg_85t51 {L d : Nat} {xs : Nat → Int32} (I : Nat → Nat → Int32) (J : Nat → Nat → Int64) (tg : Option Nat) {r : Option Value × SS} (h : ((if (I 67 12) = 7 then (∃ (I8 : Nat → Nat → Int32), Runs (GW L xs) d 86 (0, [.ref 67], [], (zS I J (some 51))) (none, (zS I8 J (some 51))) ∧ r = (some (.int 0), (zS (up2 I8 67 7 1) J (some 51)))) else ((if (I 67 12) = 8 then (∃ (I9 : Nat → Nat → Int32), Runs (GW L xs) d 86 (0, [.ref 67], [], (zS I J (some 51))) (none, (zS I9 J (some 51))) ∧ r = (some (.int 0), (zS (up2 I9 67 7 1) J (some 51)))) else ((if (I 67 12) = 19 then ((if (I 67 10) ≤ 0 then ((if (I 67 12) = 20 then ((if (I 67 10) = 0 then (∃ (I10 : Nat → Nat → Int32), Runs (GW L xs) d 88 (0, [.ref 67, .int 1], [], (zS I J (some 51))) (none, (zS I10 J (some 51))) ∧ ∃ (I11 : Nat → Nat → Int32), Runs (GW L xs) d 24 (0, [.ref 51], [], (zS I10 J (some 51))) (none, (zS I11 J (some 51))) ∧ r = (some (.int 0), (zS (up2 I11 67 7 0) J (some 51)))) else (r = (some (.int 1), (zS I J (some 51)))))) else (r = (some (.int 1), (zS I J (some 51)))))) else (∃ (I12 : Nat → Nat → Int32), Runs (GW L xs) d 88 (0, [.ref 67, .int 1], [], (zS I J (some 51))) (none, (zS I12 J (some 51))) ∧ r = (some (.int 0), (zS (up2 (up2 (up2 I12 67 9 ((I12 67 9) - 1)) 67 10 ((I12 67 10) - 1)) 67 7 4) J (some 51)))))) else ((if (I 67 12) = 20 then ((if (I 67 10) = 0 then (∃ (I13 : Nat → Nat → Int32), Runs (GW L xs) d 88 (0, [.ref 67, .int 1], [], (zS I J (some 51))) (none, (zS I13 J (some 51))) ∧ ∃ (I14 : Nat → Nat → Int32), Runs (GW L xs) d 24 (0, [.ref 51], [], (zS I13 J (some 51))) (none, (zS I14 J (some 51))) ∧ r = (some (.int 0), (zS (up2 I14 67 7 0) J (some 51)))) else (r = (some (.int 1), (zS I J (some 51)))))) else (r = (some (.int 1), (zS I J (some 51))))))))))))) : Runs (GW L xs) (d + 1) 85 (0, [.ref 67], [], (zS I J (some 51))) r := by
  refine Runs.sN 3 (c' := (6, [.ref 67], [.int 7, .int (I 67 12)], (zS I J (some 51)))) rfl ?_
  by_cases c15 : (I 67 12) = 7
  · rw [if_pos c15] at h
    refine Runs.brT (P := (I 67 12) = 7) (a := 18) (b := 9) (L := [.ref 67]) (S := []) (z := (zS I J (some 51))) rfl c15 ?_
    refine Runs.sN 1 (c' := (19, [.ref 67], [.ref 67], (zS I J (some 51)))) rfl ?_
    obtain ⟨I8, c16, h⟩ := h
    refine Runs.cl (cm := 86) (as := [.ref 67]) (rest := []) (r1 := (none, (zS I8 J (some 51)))) rfl (Nat.le_of_ble_eq_true rfl) c16 ?_
    refine Runs.as (c' := (22, [.ref 67], [], (zS I8 J (some 51)))) rfl ?_
    refine Runs.sN 4 (c' := (28, [.ref 67], [.int 0], (zS (up2 I8 67 7 1) J (some 51)))) rfl ?_
    subst h
    exact Runs.rt rfl
  · rw [if_neg c15] at h
    refine Runs.brF (P := (I 67 12) = 7) (a := 18) (b := 9) (L := [.ref 67]) (S := []) (z := (zS I J (some 51))) rfl c15 ?_
    refine Runs.sN 3 (c' := (15, [.ref 67], [.int 8, .int (I 67 12)], (zS I J (some 51)))) rfl ?_
    by_cases c17 : (I 67 12) = 8
    · rw [if_pos c17] at h
      refine Runs.brT (P := (I 67 12) = 8) (a := 18) (b := 29) (L := [.ref 67]) (S := []) (z := (zS I J (some 51))) rfl c17 ?_
      refine Runs.sN 1 (c' := (19, [.ref 67], [.ref 67], (zS I J (some 51)))) rfl ?_
      obtain ⟨I9, c18, h⟩ := h
      refine Runs.cl (cm := 86) (as := [.ref 67]) (rest := []) (r1 := (none, (zS I9 J (some 51)))) rfl (Nat.le_of_ble_eq_true rfl) c18 ?_
      refine Runs.as (c' := (22, [.ref 67], [], (zS I9 J (some 51)))) rfl ?_
      refine Runs.sN 4 (c' := (28, [.ref 67], [.int 0], (zS (up2 I9 67 7 1) J (some 51)))) rfl ?_
      subst h
      exact Runs.rt rfl
    · rw [if_neg c17] at h
      refine Runs.brF (P := (I 67 12) = 8) (a := 18) (b := 29) (L := [.ref 67]) (S := []) (z := (zS I J (some 51))) rfl c17 ?_
      refine Runs.sN 3 (c' := (35, [.ref 67], [.int 19, .int (I 67 12)], (zS I J (some 51)))) rfl ?_
      by_cases c19 : (I 67 12) = 19
      · rw [if_pos c19] at h
        refine Runs.brT (P := (I 67 12) = 19) (a := 38) (b := 77) (L := [.ref 67]) (S := []) (z := (zS I J (some 51))) rfl c19 ?_
        refine Runs.sN 2 (c' := (42, [.ref 67], [.int (I 67 10)], (zS I J (some 51)))) rfl ?_
        by_cases c20 : (I 67 10) ≤ 0
        · rw [if_pos c20] at h
          refine Runs.brT (P := (I 67 10) ≤ 0) (a := 77) (b := 45) (L := [.ref 67]) (S := []) (z := (zS I J (some 51))) rfl c20 ?_
          refine Runs.sN 3 (c' := (83, [.ref 67], [.int 20, .int (I 67 12)], (zS I J (some 51)))) rfl ?_
          by_cases c21 : (I 67 12) = 20
          · rw [if_pos c21] at h
            refine Runs.brT (P := (I 67 12) = 20) (a := 86) (b := 112) (L := [.ref 67]) (S := []) (z := (zS I J (some 51))) rfl c21 ?_
            refine Runs.sN 2 (c' := (90, [.ref 67], [.int (I 67 10)], (zS I J (some 51)))) rfl ?_
            by_cases c22 : (I 67 10) = 0
            · rw [if_pos c22] at h
              refine Runs.brT (P := (I 67 10) = 0) (a := 93) (b := 112) (L := [.ref 67]) (S := []) (z := (zS I J (some 51))) rfl c22 ?_
              refine Runs.sN 2 (c' := (95, [.ref 67], [.int 1, .ref 67], (zS I J (some 51)))) rfl ?_
              obtain ⟨I10, c23, h⟩ := h
              refine Runs.cl (cm := 88) (as := [.ref 67, .int 1]) (rest := []) (r1 := (none, (zS I10 J (some 51)))) rfl (Nat.le_of_ble_eq_true rfl) c23 ?_
              refine Runs.as (c' := (98, [.ref 67], [], (zS I10 J (some 51)))) rfl ?_
              refine Runs.sN 2 (c' := (102, [.ref 67], [.ref 51], (zS I10 J (some 51)))) rfl ?_
              obtain ⟨I11, c24, h⟩ := h
              refine Runs.cl (cm := 24) (as := [.ref 51]) (rest := []) (r1 := (none, (zS I11 J (some 51)))) rfl (Nat.le_of_ble_eq_true rfl) c24 ?_
              refine Runs.as (c' := (105, [.ref 67], [], (zS I11 J (some 51)))) rfl ?_
              refine Runs.sN 4 (c' := (111, [.ref 67], [.int 0], (zS (up2 I11 67 7 0) J (some 51)))) rfl ?_
              subst h
              exact Runs.rt rfl
            · rw [if_neg c22] at h
              refine Runs.brF (P := (I 67 10) = 0) (a := 93) (b := 112) (L := [.ref 67]) (S := []) (z := (zS I J (some 51))) rfl c22 ?_
              refine Runs.sN 1 (c' := (113, [.ref 67], [.int 1], (zS I J (some 51)))) rfl ?_
              subst h
              exact Runs.rt rfl
          · rw [if_neg c21] at h
            refine Runs.brF (P := (I 67 12) = 20) (a := 86) (b := 112) (L := [.ref 67]) (S := []) (z := (zS I J (some 51))) rfl c21 ?_
            refine Runs.sN 1 (c' := (113, [.ref 67], [.int 1], (zS I J (some 51)))) rfl ?_
            subst h
            exact Runs.rt rfl
        · rw [if_neg c20] at h
          refine Runs.brF (P := (I 67 10) ≤ 0) (a := 77) (b := 45) (L := [.ref 67]) (S := []) (z := (zS I J (some 51))) rfl c20 ?_
          refine Runs.sN 2 (c' := (47, [.ref 67], [.int 1, .ref 67], (zS I J (some 51)))) rfl ?_
          obtain ⟨I12, c25, h⟩ := h
          refine Runs.cl (cm := 88) (as := [.ref 67, .int 1]) (rest := []) (r1 := (none, (zS I12 J (some 51)))) rfl (Nat.le_of_ble_eq_true rfl) c25 ?_
          refine Runs.as (c' := (50, [.ref 67], [], (zS I12 J (some 51)))) rfl ?_
          refine Runs.sN 16 (c' := (76, [.ref 67], [.int 0], (zS (up2 (up2 (up2 I12 67 9 ((I12 67 9) - 1)) 67 10 ((I12 67 10) - 1)) 67 7 4) J (some 51)))) rfl ?_
          subst h
          exact Runs.rt rfl
      · rw [if_neg c19] at h
        refine Runs.brF (P := (I 67 12) = 19) (a := 38) (b := 77) (L := [.ref 67]) (S := []) (z := (zS I J (some 51))) rfl c19 ?_
        refine Runs.sN 3 (c' := (83, [.ref 67], [.int 20, .int (I 67 12)], (zS I J (some 51)))) rfl ?_
        by_cases c26 : (I 67 12) = 20
        · rw [if_pos c26] at h
          refine Runs.brT (P := (I 67 12) = 20) (a := 86) (b := 112) (L := [.ref 67]) (S := []) (z := (zS I J (some 51))) rfl c26 ?_
          refine Runs.sN 2 (c' := (90, [.ref 67], [.int (I 67 10)], (zS I J (some 51)))) rfl ?_
          by_cases c27 : (I 67 10) = 0
          · rw [if_pos c27] at h
            refine Runs.brT (P := (I 67 10) = 0) (a := 93) (b := 112) (L := [.ref 67]) (S := []) (z := (zS I J (some 51))) rfl c27 ?_
            refine Runs.sN 2 (c' := (95, [.ref 67], [.int 1, .ref 67], (zS I J (some 51)))) rfl ?_
            obtain ⟨I13, c28, h⟩ := h
            refine Runs.cl (cm := 88) (as := [.ref 67, .int 1]) (rest := []) (r1 := (none, (zS I13 J (some 51)))) rfl (Nat.le_of_ble_eq_true rfl) c28 ?_
            refine Runs.as (c' := (98, [.ref 67], [], (zS I13 J (some 51)))) rfl ?_
            refine Runs.sN 2 (c' := (102, [.ref 67], [.ref 51], (zS I13 J (some 51)))) rfl ?_
            obtain ⟨I14, c29, h⟩ := h
            refine Runs.cl (cm := 24) (as := [.ref 51]) (rest := []) (r1 := (none, (zS I14 J (some 51)))) rfl (Nat.le_of_ble_eq_true rfl) c29 ?_
            refine Runs.as (c' := (105, [.ref 67], [], (zS I14 J (some 51)))) rfl ?_
            refine Runs.sN 4 (c' := (111, [.ref 67], [.int 0], (zS (up2 I14 67 7 0) J (some 51)))) rfl ?_
            subst h
            exact Runs.rt rfl
          · rw [if_neg c27] at h
            refine Runs.brF (P := (I 67 10) = 0) (a := 93) (b := 112) (L := [.ref 67]) (S := []) (z := (zS I J (some 51))) rfl c27 ?_
            refine Runs.sN 1 (c' := (113, [.ref 67], [.int 1], (zS I J (some 51)))) rfl ?_
            subst h
            exact Runs.rt rfl
        · rw [if_neg c26] at h
          refine Runs.brF (P := (I 67 12) = 20) (a := 86) (b := 112) (L := [.ref 67]) (S := []) (z := (zS I J (some 51))) rfl c26 ?_
          refine Runs.sN 1 (c' := (113, [.ref 67], [.int 1], (zS I J (some 51)))) rfl ?_
          subst h
          exact Runs.rt rfl
-- X8_followAsk t55
theorem sg_85t55 {L d : Nat} {xs : Nat → Int32} (I : Nat → Nat → Int32) (J : Nat → Nat → Int64) (tg : Option Nat) {r : Option Value × SS} (h : ((if (I 67 12) = 7 then (∃ (I8 : Nat → Nat → Int32), Runs (GW L xs) d 86 (0, [.ref 67], [], (zS I J (some 55))) (none, (zS I8 J (some 55))) ∧ r = (some (.int 0), (zS (up2 I8 67 7 1) J (some 55)))) else ((if (I 67 12) = 8 then (∃ (I9 : Nat → Nat → Int32), Runs (GW L xs) d 86 (0, [.ref 67], [], (zS I J (some 55))) (none, (zS I9 J (some 55))) ∧ r = (some (.int 0), (zS (up2 I9 67 7 1) J (some 55)))) else ((if (I 67 12) = 19 then ((if (I 67 10) ≤ 0 then ((if (I 67 12) = 20 then ((if (I 67 10) = 0 then (∃ (I10 : Nat → Nat → Int32), Runs (GW L xs) d 88 (0, [.ref 67, .int 1], [], (zS I J (some 55))) (none, (zS I10 J (some 55))) ∧ ∃ (I11 : Nat → Nat → Int32), Runs (GW L xs) d 24 (0, [.ref 55], [], (zS I10 J (some 55))) (none, (zS I11 J (some 55))) ∧ r = (some (.int 0), (zS (up2 I11 67 7 0) J (some 55)))) else (r = (some (.int 1), (zS I J (some 55)))))) else (r = (some (.int 1), (zS I J (some 55)))))) else (∃ (I12 : Nat → Nat → Int32), Runs (GW L xs) d 88 (0, [.ref 67, .int 1], [], (zS I J (some 55))) (none, (zS I12 J (some 55))) ∧ r = (some (.int 0), (zS (up2 (up2 (up2 I12 67 9 ((I12 67 9) - 1)) 67 10 ((I12 67 10) - 1)) 67 7 4) J (some 55)))))) else ((if (I 67 12) = 20 then ((if (I 67 10) = 0 then (∃ (I13 : Nat → Nat → Int32), Runs (GW L xs) d 88 (0, [.ref 67, .int 1], [], (zS I J (some 55))) (none, (zS I13 J (some 55))) ∧ ∃ (I14 : Nat → Nat → Int32), Runs (GW L xs) d 24 (0, [.ref 55], [], (zS I13 J (some 55))) (none, (zS I14 J (some 55))) ∧ r = (some (.int 0), (zS (up2 I14 67 7 0) J (some 55)))) else (r = (some (.int 1), (zS I J (some 55)))))) else (r = (some (.int 1), (zS I J (some 55))))))))))))) : Runs (GW L xs) (d + 1) 85 (0, [.ref 67], [], (zS I J (some 55))) r := by
  refine Runs.sN 3 (c' := (6, [.ref 67], [.int 7, .int (I 67 12)], (zS I J (some 55)))) rfl ?_
  by_cases c15 : (I 67 12) = 7
  · rw [if_pos c15] at h
    refine Runs.brT (P := (I 67 12) = 7) (a := 18) (b := 9) (L := [.ref 67]) (S := []) (z := (zS I J (some 55))) rfl c15 ?_
    refine Runs.sN 1 (c' := (19, [.ref 67], [.ref 67], (zS I J (some 55)))) rfl ?_
    obtain ⟨I8, c16, h⟩ := h
    refine Runs.cl (cm := 86) (as := [.ref 67]) (rest := []) (r1 := (none, (zS I8 J (some 55)))) rfl (Nat.le_of_ble_eq_true rfl) c16 ?_
    refine Runs.as (c' := (22, [.ref 67], [], (zS I8 J (some 55)))) rfl ?_
    refine Runs.sN 4 (c' := (28, [.ref 67], [.int 0], (zS (up2 I8 67 7 1) J (some 55)))) rfl ?_
    subst h
    exact Runs.rt rfl
  · rw [if_neg c15] at h
    refine Runs.brF (P := (I 67 12) = 7) (a := 18) (b := 9) (L := [.ref 67]) (S := []) (z := (zS I J (some 55))) rfl c15 ?_
    refine Runs.sN 3 (c' := (15, [.ref 67], [.int 8, .int (I 67 12)], (zS I J (some 55)))) rfl ?_
    by_cases c17 : (I 67 12) = 8
    · rw [if_pos c17] at h
      refine Runs.brT (P := (I 67 12) = 8) (a := 18) (b := 29) (L := [.ref 67]) (S := []) (z := (zS I J (some 55))) rfl c17 ?_
      refine Runs.sN 1 (c' := (19, [.ref 67], [.ref 67], (zS I J (some 55)))) rfl ?_
      obtain ⟨I9, c18, h⟩ := h
      refine Runs.cl (cm := 86) (as := [.ref 67]) (rest := []) (r1 := (none, (zS I9 J (some 55)))) rfl (Nat.le_of_ble_eq_true rfl) c18 ?_
      refine Runs.as (c' := (22, [.ref 67], [], (zS I9 J (some 55)))) rfl ?_
      refine Runs.sN 4 (c' := (28, [.ref 67], [.int 0], (zS (up2 I9 67 7 1) J (some 55)))) rfl ?_
      subst h
      exact Runs.rt rfl
    · rw [if_neg c17] at h
      refine Runs.brF (P := (I 67 12) = 8) (a := 18) (b := 29) (L := [.ref 67]) (S := []) (z := (zS I J (some 55))) rfl c17 ?_
      refine Runs.sN 3 (c' := (35, [.ref 67], [.int 19, .int (I 67 12)], (zS I J (some 55)))) rfl ?_
      by_cases c19 : (I 67 12) = 19
      · rw [if_pos c19] at h
        refine Runs.brT (P := (I 67 12) = 19) (a := 38) (b := 77) (L := [.ref 67]) (S := []) (z := (zS I J (some 55))) rfl c19 ?_
        refine Runs.sN 2 (c' := (42, [.ref 67], [.int (I 67 10)], (zS I J (some 55)))) rfl ?_
        by_cases c20 : (I 67 10) ≤ 0
        · rw [if_pos c20] at h
          refine Runs.brT (P := (I 67 10) ≤ 0) (a := 77) (b := 45) (L := [.ref 67]) (S := []) (z := (zS I J (some 55))) rfl c20 ?_
          refine Runs.sN 3 (c' := (83, [.ref 67], [.int 20, .int (I 67 12)], (zS I J (some 55)))) rfl ?_
          by_cases c21 : (I 67 12) = 20
          · rw [if_pos c21] at h
            refine Runs.brT (P := (I 67 12) = 20) (a := 86) (b := 112) (L := [.ref 67]) (S := []) (z := (zS I J (some 55))) rfl c21 ?_
            refine Runs.sN 2 (c' := (90, [.ref 67], [.int (I 67 10)], (zS I J (some 55)))) rfl ?_
            by_cases c22 : (I 67 10) = 0
            · rw [if_pos c22] at h
              refine Runs.brT (P := (I 67 10) = 0) (a := 93) (b := 112) (L := [.ref 67]) (S := []) (z := (zS I J (some 55))) rfl c22 ?_
              refine Runs.sN 2 (c' := (95, [.ref 67], [.int 1, .ref 67], (zS I J (some 55)))) rfl ?_
              obtain ⟨I10, c23, h⟩ := h
              refine Runs.cl (cm := 88) (as := [.ref 67, .int 1]) (rest := []) (r1 := (none, (zS I10 J (some 55)))) rfl (Nat.le_of_ble_eq_true rfl) c23 ?_
              refine Runs.as (c' := (98, [.ref 67], [], (zS I10 J (some 55)))) rfl ?_
              refine Runs.sN 2 (c' := (102, [.ref 67], [.ref 55], (zS I10 J (some 55)))) rfl ?_
              obtain ⟨I11, c24, h⟩ := h
              refine Runs.cl (cm := 24) (as := [.ref 55]) (rest := []) (r1 := (none, (zS I11 J (some 55)))) rfl (Nat.le_of_ble_eq_true rfl) c24 ?_
              refine Runs.as (c' := (105, [.ref 67], [], (zS I11 J (some 55)))) rfl ?_
              refine Runs.sN 4 (c' := (111, [.ref 67], [.int 0], (zS (up2 I11 67 7 0) J (some 55)))) rfl ?_
              subst h
              exact Runs.rt rfl
            · rw [if_neg c22] at h
              refine Runs.brF (P := (I 67 10) = 0) (a := 93) (b := 112) (L := [.ref 67]) (S := []) (z := (zS I J (some 55))) rfl c22 ?_
              refine Runs.sN 1 (c' := (113, [.ref 67], [.int 1], (zS I J (some 55)))) rfl ?_
              subst h
              exact Runs.rt rfl
          · rw [if_neg c21] at h
            refine Runs.brF (P := (I 67 12) = 20) (a := 86) (b := 112) (L := [.ref 67]) (S := []) (z := (zS I J (some 55))) rfl c21 ?_
            refine Runs.sN 1 (c' := (113, [.ref 67], [.int 1], (zS I J (some 55)))) rfl ?_
            subst h
            exact Runs.rt rfl
        · rw [if_neg c20] at h
          refine Runs.brF (P := (I 67 10) ≤ 0) (a := 77) (b := 45) (L := [.ref 67]) (S := []) (z := (zS I J (some 55))) rfl c20 ?_
          refine Runs.sN 2 (c' := (47, [.ref 67], [.int 1, .ref 67], (zS I J (some 55)))) rfl ?_
          obtain ⟨I12, c25, h⟩ := h
          refine Runs.cl (cm := 88) (as := [.ref 67, .int 1]) (rest := []) (r1 := (none, (zS I12 J (some 55)))) rfl (Nat.le_of_ble_eq_true rfl) c25 ?_
          refine Runs.as (c' := (50, [.ref 67], [], (zS I12 J (some 55)))) rfl ?_
          refine Runs.sN 16 (c' := (76, [.ref 67], [.int 0], (zS (up2 (up2 (up2 I12 67 9 ((I12 67 9) - 1)) 67 10 ((I12 67 10) - 1)) 67 7 4) J (some 55)))) rfl ?_
          subst h
          exact Runs.rt rfl
      · rw [if_neg c19] at h
        refine Runs.brF (P := (I 67 12) = 19) (a := 38) (b := 77) (L := [.ref 67]) (S := []) (z := (zS I J (some 55))) rfl c19 ?_
        refine Runs.sN 3 (c' := (83, [.ref 67], [.int 20, .int (I 67 12)], (zS I J (some 55)))) rfl ?_
        by_cases c26 : (I 67 12) = 20
        · rw [if_pos c26] at h
          refine Runs.brT (P := (I 67 12) = 20) (a := 86) (b := 112) (L := [.ref 67]) (S := []) (z := (zS I J (some 55))) rfl c26 ?_
          refine Runs.sN 2 (c' := (90, [.ref 67], [.int (I 67 10)], (zS I J (some 55)))) rfl ?_
          by_cases c27 : (I 67 10) = 0
          · rw [if_pos c27] at h
            refine Runs.brT (P := (I 67 10) = 0) (a := 93) (b := 112) (L := [.ref 67]) (S := []) (z := (zS I J (some 55))) rfl c27 ?_
            refine Runs.sN 2 (c' := (95, [.ref 67], [.int 1, .ref 67], (zS I J (some 55)))) rfl ?_
            obtain ⟨I13, c28, h⟩ := h
            refine Runs.cl (cm := 88) (as := [.ref 67, .int 1]) (rest := []) (r1 := (none, (zS I13 J (some 55)))) rfl (Nat.le_of_ble_eq_true rfl) c28 ?_
            refine Runs.as (c' := (98, [.ref 67], [], (zS I13 J (some 55)))) rfl ?_
            refine Runs.sN 2 (c' := (102, [.ref 67], [.ref 55], (zS I13 J (some 55)))) rfl ?_
            obtain ⟨I14, c29, h⟩ := h
            refine Runs.cl (cm := 24) (as := [.ref 55]) (rest := []) (r1 := (none, (zS I14 J (some 55)))) rfl (Nat.le_of_ble_eq_true rfl) c29 ?_
            refine Runs.as (c' := (105, [.ref 67], [], (zS I14 J (some 55)))) rfl ?_
            refine Runs.sN 4 (c' := (111, [.ref 67], [.int 0], (zS (up2 I14 67 7 0) J (some 55)))) rfl ?_
            subst h
            exact Runs.rt rfl
          · rw [if_neg c27] at h
            refine Runs.brF (P := (I 67 10) = 0) (a := 93) (b := 112) (L := [.ref 67]) (S := []) (z := (zS I J (some 55))) rfl c27 ?_
            refine Runs.sN 1 (c' := (113, [.ref 67], [.int 1], (zS I J (some 55)))) rfl ?_
            subst h
            exact Runs.rt rfl
        · rw [if_neg c26] at h
          refine Runs.brF (P := (I 67 12) = 20) (a := 86) (b := 112) (L := [.ref 67]) (S := []) (z := (zS I J (some 55))) rfl c26 ?_
          refine Runs.sN 1 (c' := (113, [.ref 67], [.int 1], (zS I J (some 55)))) rfl ?_
          subst h
          exact Runs.rt rfl
-- X8_followAsk t59
theorem sg_85t59 {L d : Nat} {xs : Nat → Int32} (I : Nat → Nat → Int32) (J : Nat → Nat → Int64) (tg : Option Nat) {r : Option Value × SS} (h : ((if (I 67 12) = 7 then (∃ (I8 : Nat → Nat → Int32), Runs (GW L xs) d 86 (0, [.ref 67], [], (zS I J (some 59))) (none, (zS I8 J (some 59))) ∧ r = (some (.int 0), (zS (up2 I8 67 7 1) J (some 59)))) else ((if (I 67 12) = 8 then (∃ (I9 : Nat → Nat → Int32), Runs (GW L xs) d 86 (0, [.ref 67], [], (zS I J (some 59))) (none, (zS I9 J (some 59))) ∧ r = (some (.int 0), (zS (up2 I9 67 7 1) J (some 59)))) else ((if (I 67 12) = 19 then ((if (I 67 10) ≤ 0 then ((if (I 67 12) = 20 then ((if (I 67 10) = 0 then (∃ (I10 : Nat → Nat → Int32), Runs (GW L xs) d 88 (0, [.ref 67, .int 1], [], (zS I J (some 59))) (none, (zS I10 J (some 59))) ∧ ∃ (I11 : Nat → Nat → Int32), Runs (GW L xs) d 24 (0, [.ref 59], [], (zS I10 J (some 59))) (none, (zS I11 J (some 59))) ∧ r = (some (.int 0), (zS (up2 I11 67 7 0) J (some 59)))) else (r = (some (.int 1), (zS I J (some 59)))))) else (r = (some (.int 1), (zS I J (some 59)))))) else (∃ (I12 : Nat → Nat → Int32), Runs (GW L xs) d 88 (0, [.ref 67, .int 1], [], (zS I J (some 59))) (none, (zS I12 J (some 59))) ∧ r = (some (.int 0), (zS (up2 (up2 (up2 I12 67 9 ((I12 67 9) - 1)) 67 10 ((I12 67 10) - 1)) 67 7 4) J (some 59)))))) else ((if (I 67 12) = 20 then ((if (I 67 10) = 0 then (∃ (I13 : Nat → Nat → Int32), Runs (GW L xs) d 88 (0, [.ref 67, .int 1], [], (zS I J (some 59))) (none, (zS I13 J (some 59))) ∧ ∃ (I14 : Nat → Nat → Int32), Runs (GW L xs) d 24 (0, [.ref 59], [], (zS I13 J (some 59))) (none, (zS I14 J (some 59))) ∧ r = (some (.int 0), (zS (up2 I14 67 7 0) J (some 59)))) else (r = (some (.int 1), (zS I J (some 59)))))) else (r = (some (.int 1), (zS I J (some 59))))))))))))) : Runs (GW L xs) (d + 1) 85 (0, [.ref 67], [], (zS I J (some 59))) r := by
  refine Runs.sN 3 (c' := (6, [.ref 67], [.int 7, .int (I 67 12)], (zS I J (some 59)))) rfl ?_
  by_cases c15 : (I 67 12) = 7
  · rw [if_pos c15] at h
    refine Runs.brT (P := (I 67 12) = 7) (a := 18) (b := 9) (L := [.ref 67]) (S := []) (z := (zS I J (some 59))) rfl c15 ?_
    refine Runs.sN 1 (c' := (19, [.ref 67], [.ref 67], (zS I J (some 59)))) rfl ?_
    obtain ⟨I8, c16, h⟩ := h
    refine Runs.cl (cm := 86) (as := [.ref 67]) (rest := []) (r1 := (none, (zS I8 J (some 59)))) rfl (Nat.le_of_ble_eq_true rfl) c16 ?_
    refine Runs.as (c' := (22, [.ref 67], [], (zS I8 J (some 59)))) rfl ?_
    refine Runs.sN 4 (c' := (28, [.ref 67], [.int 0], (zS (up2 I8 67 7 1) J (some 59)))) rfl ?_
    subst h
    exact Runs.rt rfl
  · rw [if_neg c15] at h
    refine Runs.brF (P := (I 67 12) = 7) (a := 18) (b := 9) (L := [.ref 67]) (S := []) (z := (zS I J (some 59))) rfl c15 ?_
    refine Runs.sN 3 (c' := (15, [.ref 67], [.int 8, .int (I 67 12)], (zS I J (some 59)))) rfl ?_
    by_cases c17 : (I 67 12) = 8
    · rw [if_pos c17] at h
      refine Runs.brT (P := (I 67 12) = 8) (a := 18) (b := 29) (L := [.ref 67]) (S := []) (z := (zS I J (some 59))) rfl c17 ?_
      refine Runs.sN 1 (c' := (19, [.ref 67], [.ref 67], (zS I J (some 59)))) rfl ?_
      obtain ⟨I9, c18, h⟩ := h
      refine Runs.cl (cm := 86) (as := [.ref 67]) (rest := []) (r1 := (none, (zS I9 J (some 59)))) rfl (Nat.le_of_ble_eq_true rfl) c18 ?_
      refine Runs.as (c' := (22, [.ref 67], [], (zS I9 J (some 59)))) rfl ?_
      refine Runs.sN 4 (c' := (28, [.ref 67], [.int 0], (zS (up2 I9 67 7 1) J (some 59)))) rfl ?_
      subst h
      exact Runs.rt rfl
    · rw [if_neg c17] at h
      refine Runs.brF (P := (I 67 12) = 8) (a := 18) (b := 29) (L := [.ref 67]) (S := []) (z := (zS I J (some 59))) rfl c17 ?_
      refine Runs.sN 3 (c' := (35, [.ref 67], [.int 19, .int (I 67 12)], (zS I J (some 59)))) rfl ?_
      by_cases c19 : (I 67 12) = 19
      · rw [if_pos c19] at h
        refine Runs.brT (P := (I 67 12) = 19) (a := 38) (b := 77) (L := [.ref 67]) (S := []) (z := (zS I J (some 59))) rfl c19 ?_
        refine Runs.sN 2 (c' := (42, [.ref 67], [.int (I 67 10)], (zS I J (some 59)))) rfl ?_
        by_cases c20 : (I 67 10) ≤ 0
        · rw [if_pos c20] at h
          refine Runs.brT (P := (I 67 10) ≤ 0) (a := 77) (b := 45) (L := [.ref 67]) (S := []) (z := (zS I J (some 59))) rfl c20 ?_
          refine Runs.sN 3 (c' := (83, [.ref 67], [.int 20, .int (I 67 12)], (zS I J (some 59)))) rfl ?_
          by_cases c21 : (I 67 12) = 20
          · rw [if_pos c21] at h
            refine Runs.brT (P := (I 67 12) = 20) (a := 86) (b := 112) (L := [.ref 67]) (S := []) (z := (zS I J (some 59))) rfl c21 ?_
            refine Runs.sN 2 (c' := (90, [.ref 67], [.int (I 67 10)], (zS I J (some 59)))) rfl ?_
            by_cases c22 : (I 67 10) = 0
            · rw [if_pos c22] at h
              refine Runs.brT (P := (I 67 10) = 0) (a := 93) (b := 112) (L := [.ref 67]) (S := []) (z := (zS I J (some 59))) rfl c22 ?_
              refine Runs.sN 2 (c' := (95, [.ref 67], [.int 1, .ref 67], (zS I J (some 59)))) rfl ?_
              obtain ⟨I10, c23, h⟩ := h
              refine Runs.cl (cm := 88) (as := [.ref 67, .int 1]) (rest := []) (r1 := (none, (zS I10 J (some 59)))) rfl (Nat.le_of_ble_eq_true rfl) c23 ?_
              refine Runs.as (c' := (98, [.ref 67], [], (zS I10 J (some 59)))) rfl ?_
              refine Runs.sN 2 (c' := (102, [.ref 67], [.ref 59], (zS I10 J (some 59)))) rfl ?_
              obtain ⟨I11, c24, h⟩ := h
              refine Runs.cl (cm := 24) (as := [.ref 59]) (rest := []) (r1 := (none, (zS I11 J (some 59)))) rfl (Nat.le_of_ble_eq_true rfl) c24 ?_
              refine Runs.as (c' := (105, [.ref 67], [], (zS I11 J (some 59)))) rfl ?_
              refine Runs.sN 4 (c' := (111, [.ref 67], [.int 0], (zS (up2 I11 67 7 0) J (some 59)))) rfl ?_
              subst h
              exact Runs.rt rfl
            · rw [if_neg c22] at h
              refine Runs.brF (P := (I 67 10) = 0) (a := 93) (b := 112) (L := [.ref 67]) (S := []) (z := (zS I J (some 59))) rfl c22 ?_
              refine Runs.sN 1 (c' := (113, [.ref 67], [.int 1], (zS I J (some 59)))) rfl ?_
              subst h
              exact Runs.rt rfl
          · rw [if_neg c21] at h
            refine Runs.brF (P := (I 67 12) = 20) (a := 86) (b := 112) (L := [.ref 67]) (S := []) (z := (zS I J (some 59))) rfl c21 ?_
            refine Runs.sN 1 (c' := (113, [.ref 67], [.int 1], (zS I J (some 59)))) rfl ?_
            subst h
            exact Runs.rt rfl
        · rw [if_neg c20] at h
          refine Runs.brF (P := (I 67 10) ≤ 0) (a := 77) (b := 45) (L := [.ref 67]) (S := []) (z := (zS I J (some 59))) rfl c20 ?_
          refine Runs.sN 2 (c' := (47, [.ref 67], [.int 1, .ref 67], (zS I J (some 59)))) rfl ?_
          obtain ⟨I12, c25, h⟩ := h
          refine Runs.cl (cm := 88) (as := [.ref 67, .int 1]) (rest := []) (r1 := (none, (zS I12 J (some 59)))) rfl (Nat.le_of_ble_eq_true rfl) c25 ?_
          refine Runs.as (c' := (50, [.ref 67], [], (zS I12 J (some 59)))) rfl ?_
          refine Runs.sN 16 (c' := (76, [.ref 67], [.int 0], (zS (up2 (up2 (up2 I12 67 9 ((I12 67 9) - 1)) 67 10 ((I12 67 10) - 1)) 67 7 4) J (some 59)))) rfl ?_
          subst h
          exact Runs.rt rfl
      · rw [if_neg c19] at h
        refine Runs.brF (P := (I 67 12) = 19) (a := 38) (b := 77) (L := [.ref 67]) (S := []) (z := (zS I J (some 59))) rfl c19 ?_
        refine Runs.sN 3 (c' := (83, [.ref 67], [.int 20, .int (I 67 12)], (zS I J (some 59)))) rfl ?_
        by_cases c26 : (I 67 12) = 20
        · rw [if_pos c26] at h
          refine Runs.brT (P := (I 67 12) = 20) (a := 86) (b := 112) (L := [.ref 67]) (S := []) (z := (zS I J (some 59))) rfl c26 ?_
          refine Runs.sN 2 (c' := (90, [.ref 67], [.int (I 67 10)], (zS I J (some 59)))) rfl ?_
          by_cases c27 : (I 67 10) = 0
          · rw [if_pos c27] at h
            refine Runs.brT (P := (I 67 10) = 0) (a := 93) (b := 112) (L := [.ref 67]) (S := []) (z := (zS I J (some 59))) rfl c27 ?_
            refine Runs.sN 2 (c' := (95, [.ref 67], [.int 1, .ref 67], (zS I J (some 59)))) rfl ?_
            obtain ⟨I13, c28, h⟩ := h
            refine Runs.cl (cm := 88) (as := [.ref 67, .int 1]) (rest := []) (r1 := (none, (zS I13 J (some 59)))) rfl (Nat.le_of_ble_eq_true rfl) c28 ?_
            refine Runs.as (c' := (98, [.ref 67], [], (zS I13 J (some 59)))) rfl ?_
            refine Runs.sN 2 (c' := (102, [.ref 67], [.ref 59], (zS I13 J (some 59)))) rfl ?_
            obtain ⟨I14, c29, h⟩ := h
            refine Runs.cl (cm := 24) (as := [.ref 59]) (rest := []) (r1 := (none, (zS I14 J (some 59)))) rfl (Nat.le_of_ble_eq_true rfl) c29 ?_
            refine Runs.as (c' := (105, [.ref 67], [], (zS I14 J (some 59)))) rfl ?_
            refine Runs.sN 4 (c' := (111, [.ref 67], [.int 0], (zS (up2 I14 67 7 0) J (some 59)))) rfl ?_
            subst h
            exact Runs.rt rfl
          · rw [if_neg c27] at h
            refine Runs.brF (P := (I 67 10) = 0) (a := 93) (b := 112) (L := [.ref 67]) (S := []) (z := (zS I J (some 59))) rfl c27 ?_
            refine Runs.sN 1 (c' := (113, [.ref 67], [.int 1], (zS I J (some 59)))) rfl ?_
            subst h
            exact Runs.rt rfl
        · rw [if_neg c26] at h
          refine Runs.brF (P := (I 67 12) = 20) (a := 86) (b := 112) (L := [.ref 67]) (S := []) (z := (zS I J (some 59))) rfl c26 ?_
          refine Runs.sN 1 (c' := (113, [.ref 67], [.int 1], (zS I J (some 59)))) rfl ?_
          subst h
          exact Runs.rt rfl
-- X8_awaitRightSide 
theorem sg_86 {L d : Nat} {xs : Nat → Int32} (I : Nat → Nat → Int32) (J : Nat → Nat → Int64) (tg : Option Nat) {r : Option Value × SS} (h : (∃ (v5 : Int32) (I6 : Nat → Nat → Int32), Runs (GW L xs) d 89 (0, [.int (I 67 12)], [], (zS I J tg)) ((some (.int v5)), (zS I6 J tg)) ∧ ∃ (I7 : Nat → Nat → Int32), Runs (GW L xs) d 88 (0, [.ref 67, .int v5], [], (zS I6 J tg)) (none, (zS I7 J tg)) ∧ ∃ (I8 : Nat → Nat → Int32), Runs (GW L xs) d 87 (0, [.ref 67, .int (I7 67 12)], [], (zS I7 J tg)) (none, (zS I8 J tg)) ∧ r = (none, (zS I8 J tg)))) : Runs (GW L xs) (d + 1) 86 (0, [.ref 67], [], (zS I J tg)) r := by
  refine Runs.sN 3 (c' := (5, [.ref 67], [.int (I 67 12), .ref 67], (zS I J tg))) rfl ?_
  obtain ⟨v5, I6, c9, h⟩ := h
  refine Runs.cl (cm := 89) (as := [.int (I 67 12)]) (rest := [.ref 67]) (r1 := ((some (.int v5)), (zS I6 J tg))) rfl (Nat.le_of_ble_eq_true rfl) c9 ?_
  refine Runs.as (c' := (8, [.ref 67], [.int v5, .ref 67], (zS I6 J tg))) rfl ?_
  obtain ⟨I7, c10, h⟩ := h
  refine Runs.cl (cm := 88) (as := [.ref 67, .int v5]) (rest := []) (r1 := (none, (zS I7 J tg))) rfl (Nat.le_of_ble_eq_true rfl) c10 ?_
  refine Runs.as (c' := (11, [.ref 67], [], (zS I7 J tg))) rfl ?_
  refine Runs.sN 3 (c' := (16, [.ref 67], [.int (I7 67 12), .ref 67], (zS I7 J tg))) rfl ?_
  obtain ⟨I8, c11, h⟩ := h
  refine Runs.cl (cm := 87) (as := [.ref 67, .int (I7 67 12)]) (rest := []) (r1 := (none, (zS I8 J tg))) rfl (Nat.le_of_ble_eq_true rfl) c11 ?_
  refine Runs.as (c' := (19, [.ref 67], [], (zS I8 J tg))) rfl ?_
  subst h
  exact Runs.rt rfl
-- X8_await 
theorem sg_87 {L d : Nat} {xs : Nat → Int32} (I : Nat → Nat → Int32) (J : Nat → Nat → Int64) (tg : Option Nat) (a1 : Int32) {r : Option Value × SS} (h : ((if 300 ≤ (I 67 9) then (r = (none, (zS I J tg))) else (¬ ((I 67 9) < 0 ∨ 300 ≤ (I 67 9).toNatClampNeg) ∧ r = (none, (zS (up2 (up2 I 69 ((I 67 9).toNatClampNeg) a1) 67 9 ((I 67 9) + 1)) J tg)))))) : Runs (GW L xs) d 87 (0, [.ref 67, .int a1], [], (zS I J tg)) r := by
  refine Runs.sN 3 (c' := (7, [.ref 67, .int a1], [.int 300, .int (I 67 9)], (zS I J tg))) rfl ?_
  by_cases c1 : 300 ≤ (I 67 9)
  · rw [if_pos c1] at h
    refine Runs.brT (P := 300 ≤ (I 67 9)) (a := 30) (b := 10) (L := [.ref 67, .int a1]) (S := []) (z := (zS I J tg)) rfl c1 ?_
    subst h
    exact Runs.rt rfl
  · rw [if_neg c1] at h
    refine Runs.brF (P := 300 ≤ (I 67 9)) (a := 30) (b := 10) (L := [.ref 67, .int a1]) (S := []) (z := (zS I J tg)) rfl c1 ?_
    refine Runs.sN 5 (c' := (19, [.ref 67, .int a1], [.int a1, .int (I 67 9), .ref 69], (zS I J tg))) rfl ?_
    obtain ⟨c2, h⟩ := h
    refine Runs.to (c' := (20, [.ref 67, .int a1], [], (zS (up2 I 69 ((I 67 9).toNatClampNeg) a1) J tg))) (Runs.ist rfl (show (69 : Nat) < 114 by decide) rfl c2) ?_
    refine Runs.sN 6 (c' := (30, [.ref 67, .int a1], [], (zS (up2 (up2 I 69 ((I 67 9).toNatClampNeg) a1) 67 9 ((I 67 9) + 1)) J tg))) rfl ?_
    subst h
    exact Runs.rt rfl
-- X8_release t47
theorem sg_88t47 {L d : Nat} {xs : Nat → Int32} (I : Nat → Nat → Int32) (J : Nat → Nat → Int64) (tg : Option Nat) (a1 : Int32) {r : Option Value × SS} (h : ((if (I 67 9) ≤ 0 then (r = (none, (zS I J (some 47)))) else (¬ (((I 67 9) - 1) < 0 ∨ 300 ≤ ((I 67 9) - 1).toNatClampNeg) ∧ ∃ (v10 : Int32) (I11 : Nat → Nat → Int32), Runs (GW L xs) d 89 (0, [.int (I 69 (((I 67 9) - 1).toNatClampNeg))], [], (zS I J (some 47))) ((some (.int v10)), (zS I11 J (some 47))) ∧ (if v10 < a1 then (r = (none, (zS I11 J (some 47)))) else (¬ (((I11 67 9) - 1) < 0 ∨ 300 ≤ ((I11 67 9) - 1).toNatClampNeg) ∧ ∃ (I12 : Nat → Nat → Int32), Runs (GW L xs) d 25 (0, [.ref 47, .int (20000 + (I11 69 (((I11 67 9) - 1).toNatClampNeg)))], [], (zS I11 J (some 47))) (none, (zS I12 J (some 47))) ∧ Runs (GW L xs) (d + 1) 88 (0, [.ref 67, .int a1], [], (zS (up2 I12 67 9 ((I12 67 9) - 1)) J (some 47))) r)))))) : Runs (GW L xs) (d + 1) 88 (0, [.ref 67, .int a1], [], (zS I J (some 47))) r := by
  refine Runs.sN 2 (c' := (4, [.ref 67, .int a1], [.int (I 67 9)], (zS I J (some 47)))) rfl ?_
  by_cases c13 : (I 67 9) ≤ 0
  · rw [if_pos c13] at h
    refine Runs.brT (P := (I 67 9) ≤ 0) (a := 60) (b := 7) (L := [.ref 67, .int a1]) (S := []) (z := (zS I J (some 47))) rfl c13 ?_
    subst h
    exact Runs.rt rfl
  · rw [if_neg c13] at h
    refine Runs.brF (P := (I 67 9) ≤ 0) (a := 60) (b := 7) (L := [.ref 67, .int a1]) (S := []) (z := (zS I J (some 47))) rfl c13 ?_
    refine Runs.sN 6 (c' := (17, [.ref 67, .int a1], [.int ((I 67 9) - 1), .ref 69], (zS I J (some 47)))) rfl ?_
    obtain ⟨c14, h⟩ := h
    refine Runs.to (c' := (18, [.ref 67, .int a1], [.int (I 69 (((I 67 9) - 1).toNatClampNeg))], (zS I J (some 47)))) (Runs.ild rfl (show (69 : Nat) < 114 by decide) rfl c14) ?_
    obtain ⟨v10, I11, c15, h⟩ := h
    refine Runs.cl (cm := 89) (as := [.int (I 69 (((I 67 9) - 1).toNatClampNeg))]) (rest := []) (r1 := ((some (.int v10)), (zS I11 J (some 47)))) rfl (Nat.le_of_ble_eq_true rfl) c15 ?_
    refine Runs.as (c' := (21, [.ref 67, .int a1], [.int v10], (zS I11 J (some 47)))) rfl ?_
    refine Runs.sN 1 (c' := (22, [.ref 67, .int a1], [.int a1, .int v10], (zS I11 J (some 47)))) rfl ?_
    by_cases c16 : v10 < a1
    · rw [if_pos c16] at h
      refine Runs.brT (P := v10 < a1) (a := 60) (b := 25) (L := [.ref 67, .int a1]) (S := []) (z := (zS I11 J (some 47))) rfl c16 ?_
      subst h
      exact Runs.rt rfl
    · rw [if_neg c16] at h
      refine Runs.brF (P := v10 < a1) (a := 60) (b := 25) (L := [.ref 67, .int a1]) (S := []) (z := (zS I11 J (some 47))) rfl c16 ?_
      refine Runs.sN 9 (c' := (42, [.ref 67, .int a1], [.int ((I11 67 9) - 1), .ref 69, .int 20000, .ref 47], (zS I11 J (some 47)))) rfl ?_
      obtain ⟨c17, h⟩ := h
      refine Runs.to (c' := (43, [.ref 67, .int a1], [.int (I11 69 (((I11 67 9) - 1).toNatClampNeg)), .int 20000, .ref 47], (zS I11 J (some 47)))) (Runs.ild rfl (show (69 : Nat) < 114 by decide) rfl c17) ?_
      refine Runs.sN 1 (c' := (44, [.ref 67, .int a1], [.int (20000 + (I11 69 (((I11 67 9) - 1).toNatClampNeg))), .ref 47], (zS I11 J (some 47)))) rfl ?_
      obtain ⟨I12, c18, h⟩ := h
      refine Runs.cl (cm := 25) (as := [.ref 47, .int (20000 + (I11 69 (((I11 67 9) - 1).toNatClampNeg)))]) (rest := []) (r1 := (none, (zS I12 J (some 47)))) rfl (Nat.le_of_ble_eq_true rfl) c18 ?_
      refine Runs.as (c' := (47, [.ref 67, .int a1], [], (zS I12 J (some 47)))) rfl ?_
      refine Runs.sN 7 (c' := (0, [.ref 67, .int a1], [], (zS (up2 I12 67 9 ((I12 67 9) - 1)) J (some 47)))) rfl ?_
      exact h
theorem sg_88t47_0 {L d : Nat} {xs : Nat → Int32} (I : Nat → Nat → Int32) (J : Nat → Nat → Int64) (tg : Option Nat) (x1 : Int32) {r : Option Value × SS} (h : ((if (I 67 9) ≤ 0 then (r = (none, (zS I J (some 47)))) else (¬ (((I 67 9) - 1) < 0 ∨ 300 ≤ ((I 67 9) - 1).toNatClampNeg) ∧ ∃ (v1 : Int32) (I2 : Nat → Nat → Int32), Runs (GW L xs) d 89 (0, [.int (I 69 (((I 67 9) - 1).toNatClampNeg))], [], (zS I J (some 47))) ((some (.int v1)), (zS I2 J (some 47))) ∧ (if v1 < x1 then (r = (none, (zS I2 J (some 47)))) else (¬ (((I2 67 9) - 1) < 0 ∨ 300 ≤ ((I2 67 9) - 1).toNatClampNeg) ∧ ∃ (I3 : Nat → Nat → Int32), Runs (GW L xs) d 25 (0, [.ref 47, .int (20000 + (I2 69 (((I2 67 9) - 1).toNatClampNeg)))], [], (zS I2 J (some 47))) (none, (zS I3 J (some 47))) ∧ Runs (GW L xs) (d + 1) 88 (0, [.ref 67, .int x1], [], (zS (up2 I3 67 9 ((I3 67 9) - 1)) J (some 47))) r)))))) : Runs (GW L xs) (d + 1) 88 (0, [.ref 67, .int x1], [], (zS I J (some 47))) r := by
  refine Runs.sN 2 (c' := (4, [.ref 67, .int x1], [.int (I 67 9)], (zS I J (some 47)))) rfl ?_
  by_cases c4 : (I 67 9) ≤ 0
  · rw [if_pos c4] at h
    refine Runs.brT (P := (I 67 9) ≤ 0) (a := 60) (b := 7) (L := [.ref 67, .int x1]) (S := []) (z := (zS I J (some 47))) rfl c4 ?_
    subst h
    exact Runs.rt rfl
  · rw [if_neg c4] at h
    refine Runs.brF (P := (I 67 9) ≤ 0) (a := 60) (b := 7) (L := [.ref 67, .int x1]) (S := []) (z := (zS I J (some 47))) rfl c4 ?_
    refine Runs.sN 6 (c' := (17, [.ref 67, .int x1], [.int ((I 67 9) - 1), .ref 69], (zS I J (some 47)))) rfl ?_
    obtain ⟨c5, h⟩ := h
    refine Runs.to (c' := (18, [.ref 67, .int x1], [.int (I 69 (((I 67 9) - 1).toNatClampNeg))], (zS I J (some 47)))) (Runs.ild rfl (show (69 : Nat) < 114 by decide) rfl c5) ?_
    obtain ⟨v1, I2, c6, h⟩ := h
    refine Runs.cl (cm := 89) (as := [.int (I 69 (((I 67 9) - 1).toNatClampNeg))]) (rest := []) (r1 := ((some (.int v1)), (zS I2 J (some 47)))) rfl (Nat.le_of_ble_eq_true rfl) c6 ?_
    refine Runs.as (c' := (21, [.ref 67, .int x1], [.int v1], (zS I2 J (some 47)))) rfl ?_
    refine Runs.sN 1 (c' := (22, [.ref 67, .int x1], [.int x1, .int v1], (zS I2 J (some 47)))) rfl ?_
    by_cases c7 : v1 < x1
    · rw [if_pos c7] at h
      refine Runs.brT (P := v1 < x1) (a := 60) (b := 25) (L := [.ref 67, .int x1]) (S := []) (z := (zS I2 J (some 47))) rfl c7 ?_
      subst h
      exact Runs.rt rfl
    · rw [if_neg c7] at h
      refine Runs.brF (P := v1 < x1) (a := 60) (b := 25) (L := [.ref 67, .int x1]) (S := []) (z := (zS I2 J (some 47))) rfl c7 ?_
      refine Runs.sN 9 (c' := (42, [.ref 67, .int x1], [.int ((I2 67 9) - 1), .ref 69, .int 20000, .ref 47], (zS I2 J (some 47)))) rfl ?_
      obtain ⟨c8, h⟩ := h
      refine Runs.to (c' := (43, [.ref 67, .int x1], [.int (I2 69 (((I2 67 9) - 1).toNatClampNeg)), .int 20000, .ref 47], (zS I2 J (some 47)))) (Runs.ild rfl (show (69 : Nat) < 114 by decide) rfl c8) ?_
      refine Runs.sN 1 (c' := (44, [.ref 67, .int x1], [.int (20000 + (I2 69 (((I2 67 9) - 1).toNatClampNeg))), .ref 47], (zS I2 J (some 47)))) rfl ?_
      obtain ⟨I3, c9, h⟩ := h
      refine Runs.cl (cm := 25) (as := [.ref 47, .int (20000 + (I2 69 (((I2 67 9) - 1).toNatClampNeg)))]) (rest := []) (r1 := (none, (zS I3 J (some 47)))) rfl (Nat.le_of_ble_eq_true rfl) c9 ?_
      refine Runs.as (c' := (47, [.ref 67, .int x1], [], (zS I3 J (some 47)))) rfl ?_
      refine Runs.sN 7 (c' := (0, [.ref 67, .int x1], [], (zS (up2 I3 67 9 ((I3 67 9) - 1)) J (some 47)))) rfl ?_
      exact h
-- X8_release t51
theorem sg_88t51 {L d : Nat} {xs : Nat → Int32} (I : Nat → Nat → Int32) (J : Nat → Nat → Int64) (tg : Option Nat) (a1 : Int32) {r : Option Value × SS} (h : ((if (I 67 9) ≤ 0 then (r = (none, (zS I J (some 51)))) else (¬ (((I 67 9) - 1) < 0 ∨ 300 ≤ ((I 67 9) - 1).toNatClampNeg) ∧ ∃ (v10 : Int32) (I11 : Nat → Nat → Int32), Runs (GW L xs) d 89 (0, [.int (I 69 (((I 67 9) - 1).toNatClampNeg))], [], (zS I J (some 51))) ((some (.int v10)), (zS I11 J (some 51))) ∧ (if v10 < a1 then (r = (none, (zS I11 J (some 51)))) else (¬ (((I11 67 9) - 1) < 0 ∨ 300 ≤ ((I11 67 9) - 1).toNatClampNeg) ∧ ∃ (I12 : Nat → Nat → Int32), Runs (GW L xs) d 25 (0, [.ref 51, .int (20000 + (I11 69 (((I11 67 9) - 1).toNatClampNeg)))], [], (zS I11 J (some 51))) (none, (zS I12 J (some 51))) ∧ Runs (GW L xs) (d + 1) 88 (0, [.ref 67, .int a1], [], (zS (up2 I12 67 9 ((I12 67 9) - 1)) J (some 51))) r)))))) : Runs (GW L xs) (d + 1) 88 (0, [.ref 67, .int a1], [], (zS I J (some 51))) r := by
  refine Runs.sN 2 (c' := (4, [.ref 67, .int a1], [.int (I 67 9)], (zS I J (some 51)))) rfl ?_
  by_cases c13 : (I 67 9) ≤ 0
  · rw [if_pos c13] at h
    refine Runs.brT (P := (I 67 9) ≤ 0) (a := 60) (b := 7) (L := [.ref 67, .int a1]) (S := []) (z := (zS I J (some 51))) rfl c13 ?_
    subst h
    exact Runs.rt rfl
  · rw [if_neg c13] at h
    refine Runs.brF (P := (I 67 9) ≤ 0) (a := 60) (b := 7) (L := [.ref 67, .int a1]) (S := []) (z := (zS I J (some 51))) rfl c13 ?_
    refine Runs.sN 6 (c' := (17, [.ref 67, .int a1], [.int ((I 67 9) - 1), .ref 69], (zS I J (some 51)))) rfl ?_
    obtain ⟨c14, h⟩ := h
    refine Runs.to (c' := (18, [.ref 67, .int a1], [.int (I 69 (((I 67 9) - 1).toNatClampNeg))], (zS I J (some 51)))) (Runs.ild rfl (show (69 : Nat) < 114 by decide) rfl c14) ?_
    obtain ⟨v10, I11, c15, h⟩ := h
    refine Runs.cl (cm := 89) (as := [.int (I 69 (((I 67 9) - 1).toNatClampNeg))]) (rest := []) (r1 := ((some (.int v10)), (zS I11 J (some 51)))) rfl (Nat.le_of_ble_eq_true rfl) c15 ?_
    refine Runs.as (c' := (21, [.ref 67, .int a1], [.int v10], (zS I11 J (some 51)))) rfl ?_
    refine Runs.sN 1 (c' := (22, [.ref 67, .int a1], [.int a1, .int v10], (zS I11 J (some 51)))) rfl ?_
    by_cases c16 : v10 < a1
    · rw [if_pos c16] at h
      refine Runs.brT (P := v10 < a1) (a := 60) (b := 25) (L := [.ref 67, .int a1]) (S := []) (z := (zS I11 J (some 51))) rfl c16 ?_
      subst h
      exact Runs.rt rfl
    · rw [if_neg c16] at h
      refine Runs.brF (P := v10 < a1) (a := 60) (b := 25) (L := [.ref 67, .int a1]) (S := []) (z := (zS I11 J (some 51))) rfl c16 ?_
      refine Runs.sN 9 (c' := (42, [.ref 67, .int a1], [.int ((I11 67 9) - 1), .ref 69, .int 20000, .ref 51], (zS I11 J (some 51)))) rfl ?_
      obtain ⟨c17, h⟩ := h
      refine Runs.to (c' := (43, [.ref 67, .int a1], [.int (I11 69 (((I11 67 9) - 1).toNatClampNeg)), .int 20000, .ref 51], (zS I11 J (some 51)))) (Runs.ild rfl (show (69 : Nat) < 114 by decide) rfl c17) ?_
      refine Runs.sN 1 (c' := (44, [.ref 67, .int a1], [.int (20000 + (I11 69 (((I11 67 9) - 1).toNatClampNeg))), .ref 51], (zS I11 J (some 51)))) rfl ?_
      obtain ⟨I12, c18, h⟩ := h
      refine Runs.cl (cm := 25) (as := [.ref 51, .int (20000 + (I11 69 (((I11 67 9) - 1).toNatClampNeg)))]) (rest := []) (r1 := (none, (zS I12 J (some 51)))) rfl (Nat.le_of_ble_eq_true rfl) c18 ?_
      refine Runs.as (c' := (47, [.ref 67, .int a1], [], (zS I12 J (some 51)))) rfl ?_
      refine Runs.sN 7 (c' := (0, [.ref 67, .int a1], [], (zS (up2 I12 67 9 ((I12 67 9) - 1)) J (some 51)))) rfl ?_
      exact h
theorem sg_88t51_0 {L d : Nat} {xs : Nat → Int32} (I : Nat → Nat → Int32) (J : Nat → Nat → Int64) (tg : Option Nat) (x1 : Int32) {r : Option Value × SS} (h : ((if (I 67 9) ≤ 0 then (r = (none, (zS I J (some 51)))) else (¬ (((I 67 9) - 1) < 0 ∨ 300 ≤ ((I 67 9) - 1).toNatClampNeg) ∧ ∃ (v1 : Int32) (I2 : Nat → Nat → Int32), Runs (GW L xs) d 89 (0, [.int (I 69 (((I 67 9) - 1).toNatClampNeg))], [], (zS I J (some 51))) ((some (.int v1)), (zS I2 J (some 51))) ∧ (if v1 < x1 then (r = (none, (zS I2 J (some 51)))) else (¬ (((I2 67 9) - 1) < 0 ∨ 300 ≤ ((I2 67 9) - 1).toNatClampNeg) ∧ ∃ (I3 : Nat → Nat → Int32), Runs (GW L xs) d 25 (0, [.ref 51, .int (20000 + (I2 69 (((I2 67 9) - 1).toNatClampNeg)))], [], (zS I2 J (some 51))) (none, (zS I3 J (some 51))) ∧ Runs (GW L xs) (d + 1) 88 (0, [.ref 67, .int x1], [], (zS (up2 I3 67 9 ((I3 67 9) - 1)) J (some 51))) r)))))) : Runs (GW L xs) (d + 1) 88 (0, [.ref 67, .int x1], [], (zS I J (some 51))) r := by
  refine Runs.sN 2 (c' := (4, [.ref 67, .int x1], [.int (I 67 9)], (zS I J (some 51)))) rfl ?_
  by_cases c4 : (I 67 9) ≤ 0
  · rw [if_pos c4] at h
    refine Runs.brT (P := (I 67 9) ≤ 0) (a := 60) (b := 7) (L := [.ref 67, .int x1]) (S := []) (z := (zS I J (some 51))) rfl c4 ?_
    subst h
    exact Runs.rt rfl
  · rw [if_neg c4] at h
    refine Runs.brF (P := (I 67 9) ≤ 0) (a := 60) (b := 7) (L := [.ref 67, .int x1]) (S := []) (z := (zS I J (some 51))) rfl c4 ?_
    refine Runs.sN 6 (c' := (17, [.ref 67, .int x1], [.int ((I 67 9) - 1), .ref 69], (zS I J (some 51)))) rfl ?_
    obtain ⟨c5, h⟩ := h
    refine Runs.to (c' := (18, [.ref 67, .int x1], [.int (I 69 (((I 67 9) - 1).toNatClampNeg))], (zS I J (some 51)))) (Runs.ild rfl (show (69 : Nat) < 114 by decide) rfl c5) ?_
    obtain ⟨v1, I2, c6, h⟩ := h
    refine Runs.cl (cm := 89) (as := [.int (I 69 (((I 67 9) - 1).toNatClampNeg))]) (rest := []) (r1 := ((some (.int v1)), (zS I2 J (some 51)))) rfl (Nat.le_of_ble_eq_true rfl) c6 ?_
    refine Runs.as (c' := (21, [.ref 67, .int x1], [.int v1], (zS I2 J (some 51)))) rfl ?_
    refine Runs.sN 1 (c' := (22, [.ref 67, .int x1], [.int x1, .int v1], (zS I2 J (some 51)))) rfl ?_
    by_cases c7 : v1 < x1
    · rw [if_pos c7] at h
      refine Runs.brT (P := v1 < x1) (a := 60) (b := 25) (L := [.ref 67, .int x1]) (S := []) (z := (zS I2 J (some 51))) rfl c7 ?_
      subst h
      exact Runs.rt rfl
    · rw [if_neg c7] at h
      refine Runs.brF (P := v1 < x1) (a := 60) (b := 25) (L := [.ref 67, .int x1]) (S := []) (z := (zS I2 J (some 51))) rfl c7 ?_
      refine Runs.sN 9 (c' := (42, [.ref 67, .int x1], [.int ((I2 67 9) - 1), .ref 69, .int 20000, .ref 51], (zS I2 J (some 51)))) rfl ?_
      obtain ⟨c8, h⟩ := h
      refine Runs.to (c' := (43, [.ref 67, .int x1], [.int (I2 69 (((I2 67 9) - 1).toNatClampNeg)), .int 20000, .ref 51], (zS I2 J (some 51)))) (Runs.ild rfl (show (69 : Nat) < 114 by decide) rfl c8) ?_
      refine Runs.sN 1 (c' := (44, [.ref 67, .int x1], [.int (20000 + (I2 69 (((I2 67 9) - 1).toNatClampNeg))), .ref 51], (zS I2 J (some 51)))) rfl ?_
      obtain ⟨I3, c9, h⟩ := h
      refine Runs.cl (cm := 25) (as := [.ref 51, .int (20000 + (I2 69 (((I2 67 9) - 1).toNatClampNeg)))]) (rest := []) (r1 := (none, (zS I3 J (some 51)))) rfl (Nat.le_of_ble_eq_true rfl) c9 ?_
      refine Runs.as (c' := (47, [.ref 67, .int x1], [], (zS I3 J (some 51)))) rfl ?_
      refine Runs.sN 7 (c' := (0, [.ref 67, .int x1], [], (zS (up2 I3 67 9 ((I3 67 9) - 1)) J (some 51)))) rfl ?_
      exact h
