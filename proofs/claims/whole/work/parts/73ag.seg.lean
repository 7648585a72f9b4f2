-- X8_release t55
theorem sg_88t55 {L d : Nat} {xs : Nat → Int32} (I : Nat → Nat → Int32) (J : Nat → Nat → Int64) (tg : Option Nat) (a1 : Int32) {r : Option Value × SS} (h : ((if (I 67 9) ≤ 0 then (r = (none, (zS I J (some 55)))) else (¬ (((I 67 9) - 1) < 0 ∨ 300 ≤ ((I 67 9) - 1).toNatClampNeg) ∧ ∃ (v10 : Int32) (I11 : Nat → Nat → Int32), Runs (GW L xs) d 89 (0, [.int (I 69 (((I 67 9) - 1).toNatClampNeg))], [], (zS I J (some 55))) ((some (.int v10)), (zS I11 J (some 55))) ∧ (if v10 < a1 then (r = (none, (zS I11 J (some 55)))) else (¬ (((I11 67 9) - 1) < 0 ∨ 300 ≤ ((I11 67 9) - 1).toNatClampNeg) ∧ ∃ (I12 : Nat → Nat → Int32), Runs (GW L xs) d 25 (0, [.ref 55, .int (20000 + (I11 69 (((I11 67 9) - 1).toNatClampNeg)))], [], (zS I11 J (some 55))) (none, (zS I12 J (some 55))) ∧ Runs (GW L xs) (d + 1) 88 (0, [.ref 67, .int a1], [], (zS (up2 I12 67 9 ((I12 67 9) - 1)) J (some 55))) r)))))) : Runs (GW L xs) (d + 1) 88 (0, [.ref 67, .int a1], [], (zS I J (some 55))) r := by
  refine Runs.sN 2 (c' := (4, [.ref 67, .int a1], [.int (I 67 9)], (zS I J (some 55)))) rfl ?_
  by_cases c13 : (I 67 9) ≤ 0
  · rw [if_pos c13] at h
    refine Runs.brT (P := (I 67 9) ≤ 0) (a := 60) (b := 7) (L := [.ref 67, .int a1]) (S := []) (z := (zS I J (some 55))) rfl c13 ?_
    subst h
    exact Runs.rt rfl
  · rw [if_neg c13] at h
    refine Runs.brF (P := (I 67 9) ≤ 0) (a := 60) (b := 7) (L := [.ref 67, .int a1]) (S := []) (z := (zS I J (some 55))) rfl c13 ?_
    refine Runs.sN 6 (c' := (17, [.ref 67, .int a1], [.int ((I 67 9) - 1), .ref 69], (zS I J (some 55)))) rfl ?_
    obtain ⟨c14, h⟩ := h
    refine Runs.to (c' := (18, [.ref 67, .int a1], [.int (I 69 (((I 67 9) - 1).toNatClampNeg))], (zS I J (some 55)))) (Runs.ild rfl (show (69 : Nat) < 114 by decide) rfl c14) ?_
    obtain ⟨v10, I11, c15, h⟩ := h
    refine Runs.cl (cm := 89) (as := [.int (I 69 (((I 67 9) - 1).toNatClampNeg))]) (rest := []) (r1 := ((some (.int v10)), (zS I11 J (some 55)))) rfl (Nat.le_of_ble_eq_true rfl) c15 ?_
    refine Runs.as (c' := (21, [.ref 67, .int a1], [.int v10], (zS I11 J (some 55)))) rfl ?_
    refine Runs.sN 1 (c' := (22, [.ref 67, .int a1], [.int a1, .int v10], (zS I11 J (some 55)))) rfl ?_
    by_cases c16 : v10 < a1
    · rw [if_pos c16] at h
      refine Runs.brT (P := v10 < a1) (a := 60) (b := 25) (L := [.ref 67, .int a1]) (S := []) (z := (zS I11 J (some 55))) rfl c16 ?_
      subst h
      exact Runs.rt rfl
    · rw [if_neg c16] at h
      refine Runs.brF (P := v10 < a1) (a := 60) (b := 25) (L := [.ref 67, .int a1]) (S := []) (z := (zS I11 J (some 55))) rfl c16 ?_
      refine Runs.sN 9 (c' := (42, [.ref 67, .int a1], [.int ((I11 67 9) - 1), .ref 69, .int 20000, .ref 55], (zS I11 J (some 55)))) rfl ?_
      obtain ⟨c17, h⟩ := h
      refine Runs.to (c' := (43, [.ref 67, .int a1], [.int (I11 69 (((I11 67 9) - 1).toNatClampNeg)), .int 20000, .ref 55], (zS I11 J (some 55)))) (Runs.ild rfl (show (69 : Nat) < 114 by decide) rfl c17) ?_
      refine Runs.sN 1 (c' := (44, [.ref 67, .int a1], [.int (20000 + (I11 69 (((I11 67 9) - 1).toNatClampNeg))), .ref 55], (zS I11 J (some 55)))) rfl ?_
      obtain ⟨I12, c18, h⟩ := h
      refine Runs.cl (cm := 25) (as := [.ref 55, .int (20000 + (I11 69 (((I11 67 9) - 1).toNatClampNeg)))]) (rest := []) (r1 := (none, (zS I12 J (some 55)))) rfl (Nat.le_of_ble_eq_true rfl) c18 ?_
      refine Runs.as (c' := (47, [.ref 67, .int a1], [], (zS I12 J (some 55)))) rfl ?_
      refine Runs.sN 7 (c' := (0, [.ref 67, .int a1], [], (zS (up2 I12 67 9 ((I12 67 9) - 1)) J (some 55)))) rfl ?_
      exact h
theorem sg_88t55_0 {L d : Nat} {xs : Nat → Int32} (I : Nat → Nat → Int32) (J : Nat → Nat → Int64) (tg : Option Nat) (x1 : Int32) {r : Option Value × SS} (h : ((if (I 67 9) ≤ 0 then (r = (none, (zS I J (some 55)))) else (¬ (((I 67 9) - 1) < 0 ∨ 300 ≤ ((I 67 9) - 1).toNatClampNeg) ∧ ∃ (v1 : Int32) (I2 : Nat → Nat → Int32), Runs (GW L xs) d 89 (0, [.int (I 69 (((I 67 9) - 1).toNatClampNeg))], [], (zS I J (some 55))) ((some (.int v1)), (zS I2 J (some 55))) ∧ (if v1 < x1 then (r = (none, (zS I2 J (some 55)))) else (¬ (((I2 67 9) - 1) < 0 ∨ 300 ≤ ((I2 67 9) - 1).toNatClampNeg) ∧ ∃ (I3 : Nat → Nat → Int32), Runs (GW L xs) d 25 (0, [.ref 55, .int (20000 + (I2 69 (((I2 67 9) - 1).toNatClampNeg)))], [], (zS I2 J (some 55))) (none, (zS I3 J (some 55))) ∧ Runs (GW L xs) (d + 1) 88 (0, [.ref 67, .int x1], [], (zS (up2 I3 67 9 ((I3 67 9) - 1)) J (some 55))) r)))))) : Runs (GW L xs) (d + 1) 88 (0, [.ref 67, .int x1], [], (zS I J (some 55))) r := by
  refine Runs.sN 2 (c' := (4, [.ref 67, .int x1], [.int (I 67 9)], (zS I J (some 55)))) rfl ?_
  by_cases c4 : (I 67 9) ≤ 0
  · rw [if_pos c4] at h
    refine Runs.brT (P := (I 67 9) ≤ 0) (a := 60) (b := 7) (L := [.ref 67, .int x1]) (S := []) (z := (zS I J (some 55))) rfl c4 ?_
    subst h
    exact Runs.rt rfl
  · rw [if_neg c4] at h
    refine Runs.brF (P := (I 67 9) ≤ 0) (a := 60) (b := 7) (L := [.ref 67, .int x1]) (S := []) (z := (zS I J (some 55))) rfl c4 ?_
    refine Runs.sN 6 (c' := (17, [.ref 67, .int x1], [.int ((I 67 9) - 1), .ref 69], (zS I J (some 55)))) rfl ?_
    obtain ⟨c5, h⟩ := h
    refine Runs.to (c' := (18, [.ref 67, .int x1], [.int (I 69 (((I 67 9) - 1).toNatClampNeg))], (zS I J (some 55)))) (Runs.ild rfl (show (69 : Nat) < 114 by decide) rfl c5) ?_
    obtain ⟨v1, I2, c6, h⟩ := h
    refine Runs.cl (cm := 89) (as := [.int (I 69 (((I 67 9) - 1).toNatClampNeg))]) (rest := []) (r1 := ((some (.int v1)), (zS I2 J (some 55)))) rfl (Nat.le_of_ble_eq_true rfl) c6 ?_
    refine Runs.as (c' := (21, [.ref 67, .int x1], [.int v1], (zS I2 J (some 55)))) rfl ?_
    refine Runs.sN 1 (c' := (22, [.ref 67, .int x1], [.int x1, .int v1], (zS I2 J (some 55)))) rfl ?_
    by_cases c7 : v1 < x1
    · rw [if_pos c7] at h
      refine Runs.brT (P := v1 < x1) (a := 60) (b := 25) (L := [.ref 67, .int x1]) (S := []) (z := (zS I2 J (some 55))) rfl c7 ?_
      subst h
      exact Runs.rt rfl
    · rw [if_neg c7] at h
      refine Runs.brF (P := v1 < x1) (a := 60) (b := 25) (L := [.ref 67, .int x1]) (S := []) (z := (zS I2 J (some 55))) rfl c7 ?_
      refine Runs.sN 9 (c' := (42, [.ref 67, .int x1], [.int ((I2 67 9) - 1), .ref 69, .int 20000, .ref 55], (zS I2 J (some 55)))) rfl ?_
      obtain ⟨c8, h⟩ := h
      refine Runs.to (c' := (43, [.ref 67, .int x1], [.int (I2 69 (((I2 67 9) - 1).toNatClampNeg)), .int 20000, .ref 55], (zS I2 J (some 55)))) (Runs.ild rfl (show (69 : Nat) < 114 by decide) rfl c8) ?_
      refine Runs.sN 1 (c' := (44, [.ref 67, .int x1], [.int (20000 + (I2 69 (((I2 67 9) - 1).toNatClampNeg))), .ref 55], (zS I2 J (some 55)))) rfl ?_
      obtain ⟨I3, c9, h⟩ := h
      refine Runs.cl (cm := 25) (as := [.ref 55, .int (20000 + (I2 69 (((I2 67 9) - 1).toNatClampNeg)))]) (rest := []) (r1 := (none, (zS I3 J (some 55)))) rfl (Nat.le_of_ble_eq_true rfl) c9 ?_
      refine Runs.as (c' := (47, [.ref 67, .int x1], [], (zS I3 J (some 55)))) rfl ?_
      refine Runs.sN 7 (c' := (0, [.ref 67, .int x1], [], (zS (up2 I3 67 9 ((I3 67 9) - 1)) J (some 55)))) rfl ?_
      exact h
-- X8_release t59
theorem sg_88t59 {L d : Nat} {xs : Nat → Int32} (I : Nat → Nat → Int32) (J : Nat → Nat → Int64) (tg : Option Nat) (a1 : Int32) {r : Option Value × SS} (h : ((if (I 67 9) ≤ 0 then (r = (none, (zS I J (some 59)))) else (¬ (((I 67 9) - 1) < 0 ∨ 300 ≤ ((I 67 9) - 1).toNatClampNeg) ∧ ∃ (v10 : Int32) (I11 : Nat → Nat → Int32), Runs (GW L xs) d 89 (0, [.int (I 69 (((I 67 9) - 1).toNatClampNeg))], [], (zS I J (some 59))) ((some (.int v10)), (zS I11 J (some 59))) ∧ (if v10 < a1 then (r = (none, (zS I11 J (some 59)))) else (¬ (((I11 67 9) - 1) < 0 ∨ 300 ≤ ((I11 67 9) - 1).toNatClampNeg) ∧ ∃ (I12 : Nat → Nat → Int32), Runs (GW L xs) d 25 (0, [.ref 59, .int (20000 + (I11 69 (((I11 67 9) - 1).toNatClampNeg)))], [], (zS I11 J (some 59))) (none, (zS I12 J (some 59))) ∧ Runs (GW L xs) (d + 1) 88 (0, [.ref 67, .int a1], [], (zS (up2 I12 67 9 ((I12 67 9) - 1)) J (some 59))) r)))))) : Runs (GW L xs) (d + 1) 88 (0, [.ref 67, .int a1], [], (zS I J (some 59))) r := by
  refine Runs.sN 2 (c' := (4, [.ref 67, .int a1], [.int (I 67 9)], (zS I J (some 59)))) rfl ?_
  by_cases c13 : (I 67 9) ≤ 0
  · rw [if_pos c13] at h
    refine Runs.brT (P := (I 67 9) ≤ 0) (a := 60) (b := 7) (L := [.ref 67, .int a1]) (S := []) (z := (zS I J (some 59))) rfl c13 ?_
    subst h
    exact Runs.rt rfl
  · rw [if_neg c13] at h
    refine Runs.brF (P := (I 67 9) ≤ 0) (a := 60) (b := 7) (L := [.ref 67, .int a1]) (S := []) (z := (zS I J (some 59))) rfl c13 ?_
    refine Runs.sN 6 (c' := (17, [.ref 67, .int a1], [.int ((I 67 9) - 1), .ref 69], (zS I J (some 59)))) rfl ?_
    obtain ⟨c14, h⟩ := h
    refine Runs.to (c' := (18, [.ref 67, .int a1], [.int (I 69 (((I 67 9) - 1).toNatClampNeg))], (zS I J (some 59)))) (Runs.ild rfl (show (69 : Nat) < 114 by decide) rfl c14) ?_
    obtain ⟨v10, I11, c15, h⟩ := h
    refine Runs.cl (cm := 89) (as := [.int (I 69 (((I 67 9) - 1).toNatClampNeg))]) (rest := []) (r1 := ((some (.int v10)), (zS I11 J (some 59)))) rfl (Nat.le_of_ble_eq_true rfl) c15 ?_
    refine Runs.as (c' := (21, [.ref 67, .int a1], [.int v10], (zS I11 J (some 59)))) rfl ?_
    refine Runs.sN 1 (c' := (22, [.ref 67, .int a1], [.int a1, .int v10], (zS I11 J (some 59)))) rfl ?_
    by_cases c16 : v10 < a1
    · rw [if_pos c16] at h
      refine Runs.brT (P := v10 < a1) (a := 60) (b := 25) (L := [.ref 67, .int a1]) (S := []) (z := (zS I11 J (some 59))) rfl c16 ?_
      subst h
      exact Runs.rt rfl
    · rw [if_neg c16] at h
      refine Runs.brF (P := v10 < a1) (a := 60) (b := 25) (L := [.ref 67, .int a1]) (S := []) (z := (zS I11 J (some 59))) rfl c16 ?_
      refine Runs.sN 9 (c' := (42, [.ref 67, .int a1], [.int ((I11 67 9) - 1), .ref 69, .int 20000, .ref 59], (zS I11 J (some 59)))) rfl ?_
      obtain ⟨c17, h⟩ := h
      refine Runs.to (c' := (43, [.ref 67, .int a1], [.int (I11 69 (((I11 67 9) - 1).toNatClampNeg)), .int 20000, .ref 59], (zS I11 J (some 59)))) (Runs.ild rfl (show (69 : Nat) < 114 by decide) rfl c17) ?_
      refine Runs.sN 1 (c' := (44, [.ref 67, .int a1], [.int (20000 + (I11 69 (((I11 67 9) - 1).toNatClampNeg))), .ref 59], (zS I11 J (some 59)))) rfl ?_
      obtain ⟨I12, c18, h⟩ := h
      refine Runs.cl (cm := 25) (as := [.ref 59, .int (20000 + (I11 69 (((I11 67 9) - 1).toNatClampNeg)))]) (rest := []) (r1 := (none, (zS I12 J (some 59)))) rfl (Nat.le_of_ble_eq_true rfl) c18 ?_
      refine Runs.as (c' := (47, [.ref 67, .int a1], [], (zS I12 J (some 59)))) rfl ?_
      refine Runs.sN 7 (c' := (0, [.ref 67, .int a1], [], (zS (up2 I12 67 9 ((I12 67 9) - 1)) J (some 59)))) rfl ?_
      exact h
theorem sg_88t59_0 {L d : Nat} {xs : Nat → Int32} (I : Nat → Nat → Int32) (J : Nat → Nat → Int64) (tg : Option Nat) (x1 : Int32) {r : Option Value × SS} (h : ((if (I 67 9) ≤ 0 then (r = (none, (zS I J (some 59)))) else (¬ (((I 67 9) - 1) < 0 ∨ 300 ≤ ((I 67 9) - 1).toNatClampNeg) ∧ ∃ (v1 : Int32) (I2 : Nat → Nat → Int32), Runs (GW L xs) d 89 (0, [.int (I 69 (((I 67 9) - 1).toNatClampNeg))], [], (zS I J (some 59))) ((some (.int v1)), (zS I2 J (some 59))) ∧ (if v1 < x1 then (r = (none, (zS I2 J (some 59)))) else (¬ (((I2 67 9) - 1) < 0 ∨ 300 ≤ ((I2 67 9) - 1).toNatClampNeg) ∧ ∃ (I3 : Nat → Nat → Int32), Runs (GW L xs) d 25 (0, [.ref 59, .int (20000 + (I2 69 (((I2 67 9) - 1).toNatClampNeg)))], [], (zS I2 J (some 59))) (none, (zS I3 J (some 59))) ∧ Runs (GW L xs) (d + 1) 88 (0, [.ref 67, .int x1], [], (zS (up2 I3 67 9 ((I3 67 9) - 1)) J (some 59))) r)))))) : Runs (GW L xs) (d + 1) 88 (0, [.ref 67, .int x1], [], (zS I J (some 59))) r := by
  refine Runs.sN 2 (c' := (4, [.ref 67, .int x1], [.int (I 67 9)], (zS I J (some 59)))) rfl ?_
  by_cases c4 : (I 67 9) ≤ 0
  · rw [if_pos c4] at h
    refine Runs.brT (P := (I 67 9) ≤ 0) (a := 60) (b := 7) (L := [.ref 67, .int x1]) (S := []) (z := (zS I J (some 59))) rfl c4 ?_
    subst h
    exact Runs.rt rfl
  · rw [if_neg c4] at h
    refine Runs.brF (P := (I 67 9) ≤ 0) (a := 60) (b := 7) (L := [.ref 67, .int x1]) (S := []) (z := (zS I J (some 59))) rfl c4 ?_
    refine Runs.sN 6 (c' := (17, [.ref 67, .int x1], [.int ((I 67 9) - 1), .ref 69], (zS I J (some 59)))) rfl ?_
    obtain ⟨c5, h⟩ := h
    refine Runs.to (c' := (18, [.ref 67, .int x1], [.int (I 69 (((I 67 9) - 1).toNatClampNeg))], (zS I J (some 59)))) (Runs.ild rfl (show (69 : Nat) < 114 by decide) rfl c5) ?_
    obtain ⟨v1, I2, c6, h⟩ := h
    refine Runs.cl (cm := 89) (as := [.int (I 69 (((I 67 9) - 1).toNatClampNeg))]) (rest := []) (r1 := ((some (.int v1)), (zS I2 J (some 59)))) rfl (Nat.le_of_ble_eq_true rfl) c6 ?_
    refine Runs.as (c' := (21, [.ref 67, .int x1], [.int v1], (zS I2 J (some 59)))) rfl ?_
    refine Runs.sN 1 (c' := (22, [.ref 67, .int x1], [.int x1, .int v1], (zS I2 J (some 59)))) rfl ?_
    by_cases c7 : v1 < x1
    · rw [if_pos c7] at h
      refine Runs.brT (P := v1 < x1) (a := 60) (b := 25) (L := [.ref 67, .int x1]) (S := []) (z := (zS I2 J (some 59))) rfl c7 ?_
      subst h
      exact Runs.rt rfl
    · rw [if_neg c7] at h
      refine Runs.brF (P := v1 < x1) (a := 60) (b := 25) (L := [.ref 67, .int x1]) (S := []) (z := (zS I2 J (some 59))) rfl c7 ?_
      refine Runs.sN 9 (c' := (42, [.ref 67, .int x1], [.int ((I2 67 9) - 1), .ref 69, .int 20000, .ref 59], (zS I2 J (some 59)))) rfl ?_
      obtain ⟨c8, h⟩ := h
      refine Runs.to (c' := (43, [.ref 67, .int x1], [.int (I2 69 (((I2 67 9) - 1).toNatClampNeg)), .int 20000, .ref 59], (zS I2 J (some 59)))) (Runs.ild rfl (show (69 : Nat) < 114 by decide) rfl c8) ?_
      refine Runs.sN 1 (c' := (44, [.ref 67, .int x1], [.int (20000 + (I2 69 (((I2 67 9) - 1).toNatClampNeg))), .ref 59], (zS I2 J (some 59)))) rfl ?_
      obtain ⟨I3, c9, h⟩ := h
      refine Runs.cl (cm := 25) (as := [.ref 59, .int (20000 + (I2 69 (((I2 67 9) - 1).toNatClampNeg)))]) (rest := []) (r1 := (none, (zS I3 J (some 59)))) rfl (Nat.le_of_ble_eq_true rfl) c9 ?_
      refine Runs.as (c' := (47, [.ref 67, .int x1], [], (zS I3 J (some 59)))) rfl ?_
      refine Runs.sN 7 (c' := (0, [.ref 67, .int x1], [], (zS (up2 I3 67 9 ((I3 67 9) - 1)) J (some 59)))) rfl ?_
      exact h
-- X8_rank 
theorem sg_89 {L d : Nat} {xs : Nat → Int32} (I : Nat → Nat → Int32) (J : Nat → Nat → Int64) (tg : Option Nat) (a1 : Int32) {r : Option Value × SS} (h : ((if a1 = 18 then (r = (some (.int 0), (zS I J tg))) else ((if a1 = 7 then (r = (some (.int 1), (zS I J tg))) else ((if a1 = 8 then (r = (some (.int 2), (zS I J tg))) else ((if 14 < a1 then ((if a1 = 17 then (r = (some (.int 5), (zS I J tg))) else (r = (some (.int 4), (zS I J tg))))) else (r = (some (.int 3), (zS I J tg)))))))))))) : Runs (GW L xs) d 89 (0, [.int a1], [], (zS I J tg)) r := by
  refine Runs.sN 2 (c' := (3, [.int a1], [.int 18, .int a1], (zS I J tg))) rfl ?_
  by_cases c1 : a1 = 18
  · rw [if_pos c1] at h
    refine Runs.brT (P := a1 = 18) (a := 6) (b := 8) (L := [.int a1]) (S := []) (z := (zS I J tg)) rfl c1 ?_
    refine Runs.sN 1 (c' := (7, [.int a1], [.int 0], (zS I J tg))) rfl ?_
    subst h
    exact Runs.rt rfl
  · rw [if_neg c1] at h
    refine Runs.brF (P := a1 = 18) (a := 6) (b := 8) (L := [.int a1]) (S := []) (z := (zS I J tg)) rfl c1 ?_
    refine Runs.sN 2 (c' := (11, [.int a1], [.int 7, .int a1], (zS I J tg))) rfl ?_
    by_cases c2 : a1 = 7
    · rw [if_pos c2] at h
      refine Runs.brT (P := a1 = 7) (a := 14) (b := 16) (L := [.int a1]) (S := []) (z := (zS I J tg)) rfl c2 ?_
      refine Runs.sN 1 (c' := (15, [.int a1], [.int 1], (zS I J tg))) rfl ?_
      subst h
      exact Runs.rt rfl
    · rw [if_neg c2] at h
      refine Runs.brF (P := a1 = 7) (a := 14) (b := 16) (L := [.int a1]) (S := []) (z := (zS I J tg)) rfl c2 ?_
      refine Runs.sN 2 (c' := (19, [.int a1], [.int 8, .int a1], (zS I J tg))) rfl ?_
      by_cases c3 : a1 = 8
      · rw [if_pos c3] at h
        refine Runs.brT (P := a1 = 8) (a := 22) (b := 24) (L := [.int a1]) (S := []) (z := (zS I J tg)) rfl c3 ?_
        refine Runs.sN 1 (c' := (23, [.int a1], [.int 2], (zS I J tg))) rfl ?_
        subst h
        exact Runs.rt rfl
      · rw [if_neg c3] at h
        refine Runs.brF (P := a1 = 8) (a := 22) (b := 24) (L := [.int a1]) (S := []) (z := (zS I J tg)) rfl c3 ?_
        refine Runs.sN 2 (c' := (27, [.int a1], [.int 14, .int a1], (zS I J tg))) rfl ?_
        by_cases c4 : 14 < a1
        · rw [if_pos c4] at h
          refine Runs.brT (P := 14 < a1) (a := 32) (b := 30) (L := [.int a1]) (S := []) (z := (zS I J tg)) rfl c4 ?_
          refine Runs.sN 2 (c' := (35, [.int a1], [.int 17, .int a1], (zS I J tg))) rfl ?_
          by_cases c5 : a1 = 17
          · rw [if_pos c5] at h
            refine Runs.brT (P := a1 = 17) (a := 38) (b := 42) (L := [.int a1]) (S := []) (z := (zS I J tg)) rfl c5 ?_
            refine Runs.sN 2 (c' := (43, [.int a1], [.int 5], (zS I J tg))) rfl ?_
            subst h
            exact Runs.rt rfl
          · rw [if_neg c5] at h
            refine Runs.brF (P := a1 = 17) (a := 38) (b := 42) (L := [.int a1]) (S := []) (z := (zS I J tg)) rfl c5 ?_
            refine Runs.sN 1 (c' := (43, [.int a1], [.int 4], (zS I J tg))) rfl ?_
            subst h
            exact Runs.rt rfl
        · rw [if_neg c4] at h
          refine Runs.brF (P := 14 < a1) (a := 32) (b := 30) (L := [.int a1]) (S := []) (z := (zS I J tg)) rfl c4 ?_
          refine Runs.sN 1 (c' := (31, [.int a1], [.int 3], (zS I J tg))) rfl ?_
          subst h
          exact Runs.rt rfl
-- X9_score 
theorem sg_92 {L d : Nat} {xs : Nat → Int32} (I : Nat → Nat → Int32) (J : Nat → Nat → Int64) (tg : Option Nat) (a1 : Int32) (a2 : Int32) {r : Option Value × SS} (h : (Runs (GW L xs) (d + 1) 92 (12, [.ref 75, .int a1, .int a2, .int 0], [], (zS (up2 (up2 I 75 8 a1) 75 9 a2) J tg)) r)) : Runs (GW L xs) (d + 1) 92 (0, [.ref 75, .int a1, .int a2, vU], [], (zS I J tg)) r := by
  refine Runs.sN 8 (c' := (12, [.ref 75, .int a1, .int a2, .int 0], [], (zS (up2 (up2 I 75 8 a1) 75 9 a2) J tg))) rfl ?_
  exact h
theorem sg_92_12 {L d : Nat} {xs : Nat → Int32} (I : Nat → Nat → Int32) (J : Nat → Nat → Int64) (tg : Option Nat) (x1 : Int32) (x2 : Int32) (x3 : Int32) {r : Option Value × SS} (h : ((if (I 1 1) ≤ x3 then (r = (none, (zS I J tg))) else (∃ (v1 : Int32) (I2 : Nat → Nat → Int32), Runs (GW L xs) d 62 (0, [.ref 70, .int x1, .int (12 + x3), vU], [], (zS I J tg)) ((some (.int v1)), (zS I2 J tg)) ∧ ∃ (I3 : Nat → Nat → Int32), Runs (GW L xs) d 96 (0, [.ref 75, .int x3, .int v1], [], (zS I2 J tg)) (none, (zS I3 J tg)) ∧ Runs (GW L xs) (d + 1) 92 (12, [.ref 75, .int x1, .int x2, .int (x3 + 1)], [], (zS I3 J tg)) r)))) : Runs (GW L xs) (d + 1) 92 (12, [.ref 75, .int x1, .int x2, .int x3], [], (zS I J tg)) r := by
  refine Runs.sN 4 (c' := (20, [.ref 75, .int x1, .int x2, .int x3], [.int (I 1 1), .int x3], (zS I J tg))) rfl ?_
  by_cases c4 : (I 1 1) ≤ x3
  · rw [if_pos c4] at h
    refine Runs.brT (P := (I 1 1) ≤ x3) (a := 46) (b := 23) (L := [.ref 75, .int x1, .int x2, .int x3]) (S := []) (z := (zS I J tg)) rfl c4 ?_
    subst h
    exact Runs.rt rfl
  · rw [if_neg c4] at h
    refine Runs.brF (P := (I 1 1) ≤ x3) (a := 46) (b := 23) (L := [.ref 75, .int x1, .int x2, .int x3]) (S := []) (z := (zS I J tg)) rfl c4 ?_
    refine Runs.sN 8 (c' := (34, [.ref 75, .int x1, .int x2, .int x3], [.int (12 + x3), .int x1, .ref 70, .int x3, .ref 75], (zS I J tg))) rfl ?_
    obtain ⟨v1, I2, c5, h⟩ := h
    refine Runs.cl (cm := 62) (as := [.ref 70, .int x1, .int (12 + x3)]) (rest := [.int x3, .ref 75]) (r1 := ((some (.int v1)), (zS I2 J tg))) rfl (Nat.le_of_ble_eq_true rfl) c5 ?_
    refine Runs.as (c' := (37, [.ref 75, .int x1, .int x2, .int x3], [.int v1, .int x3, .ref 75], (zS I2 J tg))) rfl ?_
    obtain ⟨I3, c6, h⟩ := h
    refine Runs.cl (cm := 96) (as := [.ref 75, .int x3, .int v1]) (rest := []) (r1 := (none, (zS I3 J tg))) rfl (Nat.le_of_ble_eq_true rfl) c6 ?_
    refine Runs.as (c' := (40, [.ref 75, .int x1, .int x2, .int x3], [], (zS I3 J tg))) rfl ?_
    refine Runs.sN 2 (c' := (12, [.ref 75, .int x1, .int x2, .int (x3 + 1)], [], (zS I3 J tg))) rfl ?_
    exact h
-- X9_regard 
theorem sg_93 {L d : Nat} {xs : Nat → Int32} (I : Nat → Nat → Int32) (J : Nat → Nat → Int64) (tg : Option Nat) (a1 : Int32) (a2 : Int32) {r : Option Value × SS} (h : (¬ (a1 < 0 ∨ 24 ≤ (a1).toNatClampNeg) ∧ ∃ (I3 : Nat → Nat → Int32), Runs (GW L xs) d 97 (0, [.ref 75, .int a1, .int a2, .ref 2, .int (a1 * 6), .int (I 3 ((a1).toNatClampNeg)), vU], [], (zS I J tg)) (none, (zS I3 J tg)) ∧ ∃ (I4 : Nat → Nat → Int32), Runs (GW L xs) d 98 (0, [.ref 75], [], (zS I3 J tg)) (none, (zS I4 J tg)) ∧ r = (none, (zS I4 J tg)))) : Runs (GW L xs) (d + 1) 93 (0, [.ref 75, .int a1, .int a2], [], (zS I J tg)) r := by
  refine Runs.sN 13 (c' := (22, [.ref 75, .int a1, .int a2], [.int a1, .ref 3, .int (a1 * 6), .ref 2, .int a2, .int a1, .ref 75], (zS I J tg))) rfl ?_
  obtain ⟨c5, h⟩ := h
  refine Runs.to (c' := (23, [.ref 75, .int a1, .int a2], [.int (I 3 ((a1).toNatClampNeg)), .int (a1 * 6), .ref 2, .int a2, .int a1, .ref 75], (zS I J tg))) (Runs.ild rfl (show (3 : Nat) < 114 by decide) rfl c5) ?_
  obtain ⟨I3, c6, h⟩ := h
  refine Runs.cl (cm := 97) (as := [.ref 75, .int a1, .int a2, .ref 2, .int (a1 * 6), .int (I 3 ((a1).toNatClampNeg))]) (rest := []) (r1 := (none, (zS I3 J tg))) rfl (Nat.le_of_ble_eq_true rfl) c6 ?_
  refine Runs.as (c' := (26, [.ref 75, .int a1, .int a2], [], (zS I3 J tg))) rfl ?_
  refine Runs.sN 1 (c' := (27, [.ref 75, .int a1, .int a2], [.ref 75], (zS I3 J tg))) rfl ?_
  obtain ⟨I4, c7, h⟩ := h
  refine Runs.cl (cm := 98) (as := [.ref 75]) (rest := []) (r1 := (none, (zS I4 J tg))) rfl (Nat.le_of_ble_eq_true rfl) c7 ?_
  refine Runs.as (c' := (30, [.ref 75, .int a1, .int a2], [], (zS I4 J tg))) rfl ?_
  subst h
  exact Runs.rt rfl
-- X9_meet 
theorem sg_94 {L d : Nat} {xs : Nat → Int32} (I : Nat → Nat → Int32) (J : Nat → Nat → Int64) (tg : Option Nat) (a1 : Int32) (a2 : Int32) {r : Option Value × SS} (h : (∃ (I3 : Nat → Nat → Int32), Runs (GW L xs) d 92 (0, [.ref 75, .int a1, .int a2, vU], [], (zS I J tg)) (none, (zS I3 J tg)) ∧ ∃ (I4 : Nat → Nat → Int32), Runs (GW L xs) d 93 (0, [.ref 75, .int a1, .int a2], [], (zS I3 J tg)) (none, (zS I4 J tg)) ∧ r = (none, (zS I4 J tg)))) : Runs (GW L xs) (d + 1) 94 (0, [.ref 75, .int a1, .int a2], [], (zS I J tg)) r := by
  refine Runs.sN 3 (c' := (3, [.ref 75, .int a1, .int a2], [.int a2, .int a1, .ref 75], (zS I J tg))) rfl ?_
  obtain ⟨I3, c5, h⟩ := h
  refine Runs.cl (cm := 92) (as := [.ref 75, .int a1, .int a2]) (rest := []) (r1 := (none, (zS I3 J tg))) rfl (Nat.le_of_ble_eq_true rfl) c5 ?_
  refine Runs.as (c' := (6, [.ref 75, .int a1, .int a2], [], (zS I3 J tg))) rfl ?_
  refine Runs.sN 3 (c' := (9, [.ref 75, .int a1, .int a2], [.int a2, .int a1, .ref 75], (zS I3 J tg))) rfl ?_
  obtain ⟨I4, c6, h⟩ := h
  refine Runs.cl (cm := 93) (as := [.ref 75, .int a1, .int a2]) (rest := []) (r1 := (none, (zS I4 J tg))) rfl (Nat.le_of_ble_eq_true rfl) c6 ?_
  refine Runs.as (c' := (12, [.ref 75, .int a1, .int a2], [], (zS I4 J tg))) rfl ?_
  subst h
  exact Runs.rt rfl
-- X9_meetChanged c80
theorem sg_95c80 {L d : Nat} {xs : Nat → Int32} (I : Nat → Nat → Int32) (J : Nat → Nat → Int64) (tg : Option Nat) (a1 : Int32) (a2 : Int32) (a3 : Int32) {r : Option Value × SS} (h : (∃ (I7 : Nat → Nat → Int32), Runs (GW L xs) d 97 (0, [.ref 75, .int a1, .int a2, .ref 80, .int 0, .int a3, vU], [], (zS I J tg)) (none, (zS I7 J tg)) ∧ Runs (GW L xs) (d + 1) 95 (13, [.ref 75, .int a1, .int a2, .ref 80, .int a3, .int 0], [], (zS I7 J tg)) r)) : Runs (GW L xs) (d + 1) 95 (0, [.ref 75, .int a1, .int a2, .ref 80, .int a3, vU], [], (zS I J tg)) r := by
  refine Runs.sN 6 (c' := (7, [.ref 75, .int a1, .int a2, .ref 80, .int a3, vU], [.int a3, .int 0, .ref 80, .int a2, .int a1, .ref 75], (zS I J tg))) rfl ?_
  obtain ⟨I7, c8, h⟩ := h
  refine Runs.cl (cm := 97) (as := [.ref 75, .int a1, .int a2, .ref 80, .int 0, .int a3]) (rest := []) (r1 := (none, (zS I7 J tg))) rfl (Nat.le_of_ble_eq_true rfl) c8 ?_
  refine Runs.as (c' := (10, [.ref 75, .int a1, .int a2, .ref 80, .int a3, vU], [], (zS I7 J tg))) rfl ?_
  refine Runs.sN 2 (c' := (13, [.ref 75, .int a1, .int a2, .ref 80, .int a3, .int 0], [], (zS I7 J tg))) rfl ?_
  exact h
theorem sg_95c80_13 {L d : Nat} {xs : Nat → Int32} (I : Nat → Nat → Int32) (J : Nat → Nat → Int64) (tg : Option Nat) (x1 : Int32) (x2 : Int32) (x4 : Int32) (x5 : Int32) {r : Option Value × SS} (h : ((if (I 1 1) ≤ x5 then (∃ (I1 : Nat → Nat → Int32), Runs (GW L xs) d 98 (0, [.ref 75], [], (zS I J tg)) (none, (zS I1 J tg)) ∧ r = (none, (zS I1 J tg))) else (¬ (x1 < 0 ∨ 24 ≤ (x1).toNatClampNeg) ∧ ∃ (v2 : Int32) (I3 : Nat → Nat → Int32), Runs (GW L xs) d 63 (0, [.ref 70, .ref 80, .int 0, .int x4, .int (I 4 ((x1).toNatClampNeg)), .int (12 + x5), vU], [], (zS I J tg)) ((some (.int v2)), (zS I3 J tg)) ∧ ∃ (I4 : Nat → Nat → Int32), Runs (GW L xs) d 96 (0, [.ref 75, .int x5, .int v2], [], (zS I3 J tg)) (none, (zS I4 J tg)) ∧ Runs (GW L xs) (d + 1) 95 (13, [.ref 75, .int x1, .int x2, .ref 80, .int x4, .int (x5 + 1)], [], (zS I4 J tg)) r)))) : Runs (GW L xs) (d + 1) 95 (13, [.ref 75, .int x1, .int x2, .ref 80, .int x4, .int x5], [], (zS I J tg)) r := by
  refine Runs.sN 4 (c' := (22, [.ref 75, .int x1, .int x2, .ref 80, .int x4, .int x5], [.int (I 1 1), .int x5], (zS I J tg))) rfl ?_
  by_cases c5 : (I 1 1) ≤ x5
  · rw [if_pos c5] at h
    refine Runs.brT (P := (I 1 1) ≤ x5) (a := 62) (b := 25) (L := [.ref 75, .int x1, .int x2, .ref 80, .int x4, .int x5]) (S := []) (z := (zS I J tg)) rfl c5 ?_
    refine Runs.sN 1 (c' := (63, [.ref 75, .int x1, .int x2, .ref 80, .int x4, .int x5], [.ref 75], (zS I J tg))) rfl ?_
    obtain ⟨I1, c6, h⟩ := h
    refine Runs.cl (cm := 98) (as := [.ref 75]) (rest := []) (r1 := (none, (zS I1 J tg))) rfl (Nat.le_of_ble_eq_true rfl) c6 ?_
    refine Runs.as (c' := (66, [.ref 75, .int x1, .int x2, .ref 80, .int x4, .int x5], [], (zS I1 J tg))) rfl ?_
    subst h
    exact Runs.rt rfl
  · rw [if_neg c5] at h
    refine Runs.brF (P := (I 1 1) ≤ x5) (a := 62) (b := 25) (L := [.ref 75, .int x1, .int x2, .ref 80, .int x4, .int x5]) (S := []) (z := (zS I J tg)) rfl c5 ?_
    refine Runs.sN 11 (c' := (44, [.ref 75, .int x1, .int x2, .ref 80, .int x4, .int x5], [.int x1, .ref 4, .int x4, .int 0, .ref 80, .ref 70, .int x5, .ref 75], (zS I J tg))) rfl ?_
    obtain ⟨c7, h⟩ := h
    refine Runs.to (c' := (45, [.ref 75, .int x1, .int x2, .ref 80, .int x4, .int x5], [.int (I 4 ((x1).toNatClampNeg)), .int x4, .int 0, .ref 80, .ref 70, .int x5, .ref 75], (zS I J tg))) (Runs.ild rfl (show (4 : Nat) < 114 by decide) rfl c7) ?_
    refine Runs.sN 3 (c' := (50, [.ref 75, .int x1, .int x2, .ref 80, .int x4, .int x5], [.int (12 + x5), .int (I 4 ((x1).toNatClampNeg)), .int x4, .int 0, .ref 80, .ref 70, .int x5, .ref 75], (zS I J tg))) rfl ?_
    obtain ⟨v2, I3, c8, h⟩ := h
    refine Runs.cl (cm := 63) (as := [.ref 70, .ref 80, .int 0, .int x4, .int (I 4 ((x1).toNatClampNeg)), .int (12 + x5)]) (rest := [.int x5, .ref 75]) (r1 := ((some (.int v2)), (zS I3 J tg))) rfl (Nat.le_of_ble_eq_true rfl) c8 ?_
    refine Runs.as (c' := (53, [.ref 75, .int x1, .int x2, .ref 80, .int x4, .int x5], [.int v2, .int x5, .ref 75], (zS I3 J tg))) rfl ?_
    obtain ⟨I4, c9, h⟩ := h
    refine Runs.cl (cm := 96) (as := [.ref 75, .int x5, .int v2]) (rest := []) (r1 := (none, (zS I4 J tg))) rfl (Nat.le_of_ble_eq_true rfl) c9 ?_
    refine Runs.as (c' := (56, [.ref 75, .int x1, .int x2, .ref 80, .int x4, .int x5], [], (zS I4 J tg))) rfl ?_
    refine Runs.sN 2 (c' := (13, [.ref 75, .int x1, .int x2, .ref 80, .int x4, .int (x5 + 1)], [], (zS I4 J tg))) rfl ?_
    exact h
-- X9_setFar 
theorem sg_96 {L d : Nat} {xs : Nat → Int32} (I : Nat → Nat → Int32) (J : Nat → Nat → Int64) (tg : Option Nat) (a1 : Int32) (a2 : Int32) {r : Option Value × SS} (h : (¬ ((((I 75 9) * 12) + a1) < 0 ∨ 72 ≤ (((I 75 9) * 12) + a1).toNatClampNeg) ∧ ¬ (a1 < 0 ∨ 12 ≤ (a1).toNatClampNeg) ∧ r = (none, (zS (up2 I 77 ((a1).toNatClampNeg) (a2 - (I 10 ((((I 75 9) * 12) + a1).toNatClampNeg)))) J tg)))) : Runs (GW L xs) d 96 (0, [.ref 75, .int a1, .int a2], [], (zS I J tg)) r := by
  refine Runs.sN 13 (c' := (22, [.ref 75, .int a1, .int a2], [.int (((I 75 9) * 12) + a1), .ref 10, .int a2, .int a1, .ref 77], (zS I J tg))) rfl ?_
  obtain ⟨c1, h⟩ := h
  refine Runs.to (c' := (23, [.ref 75, .int a1, .int a2], [.int (I 10 ((((I 75 9) * 12) + a1).toNatClampNeg)), .int a2, .int a1, .ref 77], (zS I J tg))) (Runs.ild rfl (show (10 : Nat) < 114 by decide) rfl c1) ?_
  refine Runs.sN 1 (c' := (24, [.ref 75, .int a1, .int a2], [.int (a2 - (I 10 ((((I 75 9) * 12) + a1).toNatClampNeg))), .int a1, .ref 77], (zS I J tg))) rfl ?_
  obtain ⟨c2, h⟩ := h
  refine Runs.to (c' := (25, [.ref 75, .int a1, .int a2], [], (zS (up2 I 77 ((a1).toNatClampNeg) (a2 - (I 10 ((((I 75 9) * 12) + a1).toNatClampNeg)))) J tg))) (Runs.ist rfl (show (77 : Nat) < 114 by decide) rfl c2) ?_
  subst h
  exact Runs.rt rfl
-- X9_countFacts c2
theorem sg_97c2 {L d : Nat} {xs : Nat → Int32} (I : Nat → Nat → Int32) (J : Nat → Nat → Int64) (tg : Option Nat) (a1 : Int32) (a2 : Int32) (a3 : Int32) (a4 : Int32) {r : Option Value × SS} (h : (∃ (I5 : Nat → Nat → Int32), Runs (GW L xs) d 301 (0, [.ref 78, .int 0, vU, vU], [], (zS (up2 (up2 I 75 8 a1) 75 9 a2) J tg)) (none, (zS I5 J tg)) ∧ Runs (GW L xs) (d + 1) 97 (21, [.ref 75, .int a1, .int a2, .ref 2, .int a3, .int a4, .int 0], [], (zS I5 J tg)) r)) : Runs (GW L xs) (d + 1) 97 (0, [.ref 75, .int a1, .int a2, .ref 2, .int a3, .int a4, vU], [], (zS I J tg)) r := by
  refine Runs.sN 9 (c' := (15, [.ref 75, .int a1, .int a2, .ref 2, .int a3, .int a4, vU], [.int 0, .ref 78], (zS (up2 (up2 I 75 8 a1) 75 9 a2) J tg))) rfl ?_
  obtain ⟨I5, c6, h⟩ := h
  refine Runs.cl (cm := 301) (as := [.ref 78, .int 0]) (rest := []) (r1 := (none, (zS I5 J tg))) rfl (Nat.le_of_ble_eq_true rfl) c6 ?_
  refine Runs.as (c' := (18, [.ref 75, .int a1, .int a2, .ref 2, .int a3, .int a4, vU], [], (zS I5 J tg))) rfl ?_
  refine Runs.sN 2 (c' := (21, [.ref 75, .int a1, .int a2, .ref 2, .int a3, .int a4, .int 0], [], (zS I5 J tg))) rfl ?_
  exact h
theorem sg_97c2_21 {L d : Nat} {xs : Nat → Int32} (I : Nat → Nat → Int32) (J : Nat → Nat → Int64) (tg : Option Nat) (x1 : Int32) (x2 : Int32) (x4 : Int32) (x5 : Int32) (x6 : Int32) {r : Option Value × SS} (h : ((if x5 ≤ x6 then (¬ (x1 < 0 ∨ 24 ≤ (x1).toNatClampNeg) ∧ ¬ (x1 < 0 ∨ 12 ≤ (x1).toNatClampNeg) ∧ r = (none, (zS (up2 (up2 (up2 I 78 5 x5) 78 6 (I 4 ((x1).toNatClampNeg))) 78 7 (I 5 ((x1).toNatClampNeg))) J tg))) else (¬ ((x4 + x6) < 0 ∨ 144 ≤ (x4 + x6).toNatClampNeg) ∧ ∃ (v1 : Int32) (I2 : Nat → Nat → Int32), Runs (GW L xs) d 170 (0, [.int (I 2 ((x4 + x6).toNatClampNeg))], [], (zS I J tg)) ((some (.int v1)), (zS I2 J tg)) ∧ ¬ (v1 < 0 ∨ 12 ≤ (v1).toNatClampNeg) ∧ ¬ (v1 < 0 ∨ 12 ≤ (v1).toNatClampNeg) ∧ Runs (GW L xs) (d + 1) 97 (21, [.ref 75, .int x1, .int x2, .ref 2, .int x4, .int x5, .int (x6 + 1)], [], (zS (up2 I2 78 ((v1).toNatClampNeg) ((I2 78 ((v1).toNatClampNeg)) + 1)) J tg)) r)))) : Runs (GW L xs) (d + 1) 97 (21, [.ref 75, .int x1, .int x2, .ref 2, .int x4, .int x5, .int x6], [], (zS I J tg)) r := by
  refine Runs.sN 2 (c' := (25, [.ref 75, .int x1, .int x2, .ref 2, .int x4, .int x5, .int x6], [.int x5, .int x6], (zS I J tg))) rfl ?_
  by_cases c3 : x5 ≤ x6
  · rw [if_pos c3] at h
    refine Runs.brT (P := x5 ≤ x6) (a := 53) (b := 28) (L := [.ref 75, .int x1, .int x2, .ref 2, .int x4, .int x5, .int x6]) (S := []) (z := (zS I J tg)) rfl c3 ?_
    refine Runs.sN 12 (c' := (75, [.ref 75, .int x1, .int x2, .ref 2, .int x4, .int x5, .int x6], [.int x1, .ref 4, .int 6, .ref 78], (zS (up2 I 78 5 x5) J tg))) rfl ?_
    obtain ⟨c4, h⟩ := h
    refine Runs.to (c' := (76, [.ref 75, .int x1, .int x2, .ref 2, .int x4, .int x5, .int x6], [.int (I 4 ((x1).toNatClampNeg)), .int 6, .ref 78], (zS (up2 I 78 5 x5) J tg))) (Runs.ild rfl (show (4 : Nat) < 114 by decide) rfl c4) ?_
    refine Runs.sN 8 (c' := (91, [.ref 75, .int x1, .int x2, .ref 2, .int x4, .int x5, .int x6], [.int x1, .ref 5, .int 7, .ref 78], (zS (up2 (up2 I 78 5 x5) 78 6 (I 4 ((x1).toNatClampNeg))) J tg))) rfl ?_
    obtain ⟨c5, h⟩ := h
    refine Runs.to (c' := (92, [.ref 75, .int x1, .int x2, .ref 2, .int x4, .int x5, .int x6], [.int (I 5 ((x1).toNatClampNeg)), .int 7, .ref 78], (zS (up2 (up2 I 78 5 x5) 78 6 (I 4 ((x1).toNatClampNeg))) J tg))) (Runs.ild rfl (show (5 : Nat) < 114 by decide) rfl c5) ?_
    refine Runs.sN 1 (c' := (93, [.ref 75, .int x1, .int x2, .ref 2, .int x4, .int x5, .int x6], [], (zS (up2 (up2 (up2 I 78 5 x5) 78 6 (I 4 ((x1).toNatClampNeg))) 78 7 (I 5 ((x1).toNatClampNeg))) J tg))) rfl ?_
    subst h
    exact Runs.rt rfl
  · rw [if_neg c3] at h
    refine Runs.brF (P := x5 ≤ x6) (a := 53) (b := 28) (L := [.ref 75, .int x1, .int x2, .ref 2, .int x4, .int x5, .int x6]) (S := []) (z := (zS I J tg)) rfl c3 ?_
    refine Runs.sN 6 (c' := (38, [.ref 75, .int x1, .int x2, .ref 2, .int x4, .int x5, .int x6], [.int (x4 + x6), .ref 2, .ref 78], (zS I J tg))) rfl ?_
    obtain ⟨c6, h⟩ := h
    refine Runs.to (c' := (39, [.ref 75, .int x1, .int x2, .ref 2, .int x4, .int x5, .int x6], [.int (I 2 ((x4 + x6).toNatClampNeg)), .ref 78], (zS I J tg))) (Runs.ild rfl (show (2 : Nat) < 114 by decide) rfl c6) ?_
    obtain ⟨v1, I2, c7, h⟩ := h
    refine Runs.cl (cm := 170) (as := [.int (I 2 ((x4 + x6).toNatClampNeg))]) (rest := [.ref 78]) (r1 := ((some (.int v1)), (zS I2 J tg))) rfl (Nat.le_of_ble_eq_true rfl) c7 ?_
    refine Runs.as (c' := (42, [.ref 75, .int x1, .int x2, .ref 2, .int x4, .int x5, .int x6], [.int v1, .ref 78], (zS I2 J tg))) rfl ?_
    refine Runs.sN 1 (c' := (43, [.ref 75, .int x1, .int x2, .ref 2, .int x4, .int x5, .int x6], [.int v1, .ref 78, .int v1, .ref 78], (zS I2 J tg))) rfl ?_
    obtain ⟨c8, h⟩ := h
    refine Runs.to (c' := (44, [.ref 75, .int x1, .int x2, .ref 2, .int x4, .int x5, .int x6], [.int (I2 78 ((v1).toNatClampNeg)), .int v1, .ref 78], (zS I2 J tg))) (Runs.ild rfl (show (78 : Nat) < 114 by decide) rfl c8) ?_
    refine Runs.sN 2 (c' := (46, [.ref 75, .int x1, .int x2, .ref 2, .int x4, .int x5, .int x6], [.int ((I2 78 ((v1).toNatClampNeg)) + 1), .int v1, .ref 78], (zS I2 J tg))) rfl ?_
    obtain ⟨c9, h⟩ := h
    refine Runs.to (c' := (47, [.ref 75, .int x1, .int x2, .ref 2, .int x4, .int x5, .int x6], [], (zS (up2 I2 78 ((v1).toNatClampNeg) ((I2 78 ((v1).toNatClampNeg)) + 1)) J tg))) (Runs.ist rfl (show (78 : Nat) < 114 by decide) rfl c9) ?_
    refine Runs.sN 2 (c' := (21, [.ref 75, .int x1, .int x2, .ref 2, .int x4, .int x5, .int (x6 + 1)], [], (zS (up2 I2 78 ((v1).toNatClampNeg) ((I2 78 ((v1).toNatClampNeg)) + 1)) J tg))) rfl ?_
    exact h
-- X9_countFacts c80
theorem sg_97c80 {L d : Nat} {xs : Nat → Int32} (I : Nat → Nat → Int32) (J : Nat → Nat → Int64) (tg : Option Nat) (a1 : Int32) (a2 : Int32) (a3 : Int32) (a4 : Int32) {r : Option Value × SS} (h : (∃ (I5 : Nat → Nat → Int32), Runs (GW L xs) d 301 (0, [.ref 78, .int 0, vU, vU], [], (zS (up2 (up2 I 75 8 a1) 75 9 a2) J tg)) (none, (zS I5 J tg)) ∧ Runs (GW L xs) (d + 1) 97 (21, [.ref 75, .int a1, .int a2, .ref 80, .int a3, .int a4, .int 0], [], (zS I5 J tg)) r)) : Runs (GW L xs) (d + 1) 97 (0, [.ref 75, .int a1, .int a2, .ref 80, .int a3, .int a4, vU], [], (zS I J tg)) r := by
  refine Runs.sN 9 (c' := (15, [.ref 75, .int a1, .int a2, .ref 80, .int a3, .int a4, vU], [.int 0, .ref 78], (zS (up2 (up2 I 75 8 a1) 75 9 a2) J tg))) rfl ?_
  obtain ⟨I5, c6, h⟩ := h
  refine Runs.cl (cm := 301) (as := [.ref 78, .int 0]) (rest := []) (r1 := (none, (zS I5 J tg))) rfl (Nat.le_of_ble_eq_true rfl) c6 ?_
  refine Runs.as (c' := (18, [.ref 75, .int a1, .int a2, .ref 80, .int a3, .int a4, vU], [], (zS I5 J tg))) rfl ?_
  refine Runs.sN 2 (c' := (21, [.ref 75, .int a1, .int a2, .ref 80, .int a3, .int a4, .int 0], [], (zS I5 J tg))) rfl ?_
  exact h
theorem sg_97c80_21 {L d : Nat} {xs : Nat → Int32} (I : Nat → Nat → Int32) (J : Nat → Nat → Int64) (tg : Option Nat) (x1 : Int32) (x2 : Int32) (x4 : Int32) (x5 : Int32) (x6 : Int32) {r : Option Value × SS} (h : ((if x5 ≤ x6 then (¬ (x1 < 0 ∨ 24 ≤ (x1).toNatClampNeg) ∧ ¬ (x1 < 0 ∨ 12 ≤ (x1).toNatClampNeg) ∧ r = (none, (zS (up2 (up2 (up2 I 78 5 x5) 78 6 (I 4 ((x1).toNatClampNeg))) 78 7 (I 5 ((x1).toNatClampNeg))) J tg))) else (¬ ((x4 + x6) < 0 ∨ 6 ≤ (x4 + x6).toNatClampNeg) ∧ ∃ (v1 : Int32) (I2 : Nat → Nat → Int32), Runs (GW L xs) d 170 (0, [.int (I 80 ((x4 + x6).toNatClampNeg))], [], (zS I J tg)) ((some (.int v1)), (zS I2 J tg)) ∧ ¬ (v1 < 0 ∨ 12 ≤ (v1).toNatClampNeg) ∧ ¬ (v1 < 0 ∨ 12 ≤ (v1).toNatClampNeg) ∧ Runs (GW L xs) (d + 1) 97 (21, [.ref 75, .int x1, .int x2, .ref 80, .int x4, .int x5, .int (x6 + 1)], [], (zS (up2 I2 78 ((v1).toNatClampNeg) ((I2 78 ((v1).toNatClampNeg)) + 1)) J tg)) r)))) : Runs (GW L xs) (d + 1) 97 (21, [.ref 75, .int x1, .int x2, .ref 80, .int x4, .int x5, .int x6], [], (zS I J tg)) r := by
  refine Runs.sN 2 (c' := (25, [.ref 75, .int x1, .int x2, .ref 80, .int x4, .int x5, .int x6], [.int x5, .int x6], (zS I J tg))) rfl ?_
  by_cases c3 : x5 ≤ x6
  · rw [if_pos c3] at h
    refine Runs.brT (P := x5 ≤ x6) (a := 53) (b := 28) (L := [.ref 75, .int x1, .int x2, .ref 80, .int x4, .int x5, .int x6]) (S := []) (z := (zS I J tg)) rfl c3 ?_
    refine Runs.sN 12 (c' := (75, [.ref 75, .int x1, .int x2, .ref 80, .int x4, .int x5, .int x6], [.int x1, .ref 4, .int 6, .ref 78], (zS (up2 I 78 5 x5) J tg))) rfl ?_
    obtain ⟨c4, h⟩ := h
    refine Runs.to (c' := (76, [.ref 75, .int x1, .int x2, .ref 80, .int x4, .int x5, .int x6], [.int (I 4 ((x1).toNatClampNeg)), .int 6, .ref 78], (zS (up2 I 78 5 x5) J tg))) (Runs.ild rfl (show (4 : Nat) < 114 by decide) rfl c4) ?_
    refine Runs.sN 8 (c' := (91, [.ref 75, .int x1, .int x2, .ref 80, .int x4, .int x5, .int x6], [.int x1, .ref 5, .int 7, .ref 78], (zS (up2 (up2 I 78 5 x5) 78 6 (I 4 ((x1).toNatClampNeg))) J tg))) rfl ?_
    obtain ⟨c5, h⟩ := h
    refine Runs.to (c' := (92, [.ref 75, .int x1, .int x2, .ref 80, .int x4, .int x5, .int x6], [.int (I 5 ((x1).toNatClampNeg)), .int 7, .ref 78], (zS (up2 (up2 I 78 5 x5) 78 6 (I 4 ((x1).toNatClampNeg))) J tg))) (Runs.ild rfl (show (5 : Nat) < 114 by decide) rfl c5) ?_
    refine Runs.sN 1 (c' := (93, [.ref 75, .int x1, .int x2, .ref 80, .int x4, .int x5, .int x6], [], (zS (up2 (up2 (up2 I 78 5 x5) 78 6 (I 4 ((x1).toNatClampNeg))) 78 7 (I 5 ((x1).toNatClampNeg))) J tg))) rfl ?_
    subst h
    exact Runs.rt rfl
  · rw [if_neg c3] at h
    refine Runs.brF (P := x5 ≤ x6) (a := 53) (b := 28) (L := [.ref 75, .int x1, .int x2, .ref 80, .int x4, .int x5, .int x6]) (S := []) (z := (zS I J tg)) rfl c3 ?_
    refine Runs.sN 6 (c' := (38, [.ref 75, .int x1, .int x2, .ref 80, .int x4, .int x5, .int x6], [.int (x4 + x6), .ref 80, .ref 78], (zS I J tg))) rfl ?_
    obtain ⟨c6, h⟩ := h
    refine Runs.to (c' := (39, [.ref 75, .int x1, .int x2, .ref 80, .int x4, .int x5, .int x6], [.int (I 80 ((x4 + x6).toNatClampNeg)), .ref 78], (zS I J tg))) (Runs.ild rfl (show (80 : Nat) < 114 by decide) rfl c6) ?_
    obtain ⟨v1, I2, c7, h⟩ := h
    refine Runs.cl (cm := 170) (as := [.int (I 80 ((x4 + x6).toNatClampNeg))]) (rest := [.ref 78]) (r1 := ((some (.int v1)), (zS I2 J tg))) rfl (Nat.le_of_ble_eq_true rfl) c7 ?_
    refine Runs.as (c' := (42, [.ref 75, .int x1, .int x2, .ref 80, .int x4, .int x5, .int x6], [.int v1, .ref 78], (zS I2 J tg))) rfl ?_
    refine Runs.sN 1 (c' := (43, [.ref 75, .int x1, .int x2, .ref 80, .int x4, .int x5, .int x6], [.int v1, .ref 78, .int v1, .ref 78], (zS I2 J tg))) rfl ?_
    obtain ⟨c8, h⟩ := h
    refine Runs.to (c' := (44, [.ref 75, .int x1, .int x2, .ref 80, .int x4, .int x5, .int x6], [.int (I2 78 ((v1).toNatClampNeg)), .int v1, .ref 78], (zS I2 J tg))) (Runs.ild rfl (show (78 : Nat) < 114 by decide) rfl c8) ?_
    refine Runs.sN 2 (c' := (46, [.ref 75, .int x1, .int x2, .ref 80, .int x4, .int x5, .int x6], [.int ((I2 78 ((v1).toNatClampNeg)) + 1), .int v1, .ref 78], (zS I2 J tg))) rfl ?_
    obtain ⟨c9, h⟩ := h
    refine Runs.to (c' := (47, [.ref 75, .int x1, .int x2, .ref 80, .int x4, .int x5, .int x6], [], (zS (up2 I2 78 ((v1).toNatClampNeg) ((I2 78 ((v1).toNatClampNeg)) + 1)) J tg))) (Runs.ist rfl (show (78 : Nat) < 114 by decide) rfl c9) ?_
    refine Runs.sN 2 (c' := (21, [.ref 75, .int x1, .int x2, .ref 80, .int x4, .int x5, .int (x6 + 1)], [], (zS (up2 I2 78 ((v1).toNatClampNeg) ((I2 78 ((v1).toNatClampNeg)) + 1)) J tg))) rfl ?_
    exact h
-- X9_take 
theorem sg_100 {L d : Nat} {xs : Nat → Int32} (I : Nat → Nat → Int32) (J : Nat → Nat → Int64) (tg : Option Nat) (a1 : Int32) {r : Option Value × SS} (h : (∃ (v3 : Int32) (I4 : Nat → Nat → Int32), Runs (GW L xs) d 113 (0, [.ref 7, .ref 77, .int 0, .int a1, .int 0, vU, vU, vU, vU], [], (zS I J tg)) ((some (.int v3)), (zS I4 J tg)) ∧ r = (some (.int v3), (zS I4 J tg)))) : Runs (GW L xs) (d + 1) 100 (0, [.ref 75, .int a1], [], (zS I J tg)) r := by
  refine Runs.sN 7 (c' := (11, [.ref 75, .int a1], [.int 0, .int a1, .int 0, .ref 77, .ref 7], (zS I J tg))) rfl ?_
  obtain ⟨v3, I4, c5, h⟩ := h
  refine Runs.cl (cm := 113) (as := [.ref 7, .ref 77, .int 0, .int a1, .int 0]) (rest := []) (r1 := ((some (.int v3)), (zS I4 J tg))) rfl (Nat.le_of_ble_eq_true rfl) c5 ?_
  refine Runs.as (c' := (14, [.ref 75, .int a1], [.int v3], (zS I4 J tg))) rfl ?_
  subst h
  exact Runs.rt rfl
-- X9_isLearnt 
theorem sg_101 {L d : Nat} {xs : Nat → Int32} (I : Nat → Nat → Int32) (J : Nat → Nat → Int64) (tg : Option Nat) (a1 : Int32) {r : Option Value × SS} (h : ((if a1 = (-1) then (r = (some (.int 0), (zS I J tg))) else (¬ ((((I 75 8) * 6) + a1) < 0 ∨ 72 ≤ (((I 75 8) * 6) + a1).toNatClampNeg) ∧ (if (I 12 ((((I 75 8) * 6) + a1).toNatClampNeg)) < 500 then (r = (some (.int 0), (zS I J tg))) else (r = (some (.int 1), (zS I J tg)))))))) : Runs (GW L xs) d 101 (0, [.ref 75, .int a1], [], (zS I J tg)) r := by
  refine Runs.sN 2 (c' := (2, [.ref 75, .int a1], [.int (-1), .int a1], (zS I J tg))) rfl ?_
  by_cases c1 : a1 = (-1)
  · rw [if_pos c1] at h
    refine Runs.brT (P := a1 = (-1)) (a := 32) (b := 5) (L := [.ref 75, .int a1]) (S := []) (z := (zS I J tg)) rfl c1 ?_
    refine Runs.sN 1 (c' := (33, [.ref 75, .int a1], [.int 0], (zS I J tg))) rfl ?_
    subst h
    exact Runs.rt rfl
  · rw [if_neg c1] at h
    refine Runs.brF (P := a1 = (-1)) (a := 32) (b := 5) (L := [.ref 75, .int a1]) (S := []) (z := (zS I J tg)) rfl c1 ?_
    refine Runs.sN 9 (c' := (21, [.ref 75, .int a1], [.int (((I 75 8) * 6) + a1), .ref 12], (zS I J tg))) rfl ?_
    obtain ⟨c2, h⟩ := h
    refine Runs.to (c' := (22, [.ref 75, .int a1], [.int (I 12 ((((I 75 8) * 6) + a1).toNatClampNeg))], (zS I J tg))) (Runs.ild rfl (show (12 : Nat) < 114 by decide) rfl c2) ?_
    refine Runs.sN 1 (c' := (25, [.ref 75, .int a1], [.int 500, .int (I 12 ((((I 75 8) * 6) + a1).toNatClampNeg))], (zS I J tg))) rfl ?_
    by_cases c3 : (I 12 ((((I 75 8) * 6) + a1).toNatClampNeg)) < 500
    · rw [if_pos c3] at h
      refine Runs.brT (P := (I 12 ((((I 75 8) * 6) + a1).toNatClampNeg)) < 500) (a := 32) (b := 28) (L := [.ref 75, .int a1]) (S := []) (z := (zS I J tg)) rfl c3 ?_
      refine Runs.sN 1 (c' := (33, [.ref 75, .int a1], [.int 0], (zS I J tg))) rfl ?_
      subst h
      exact Runs.rt rfl
    · rw [if_neg c3] at h
      refine Runs.brF (P := (I 12 ((((I 75 8) * 6) + a1).toNatClampNeg)) < 500) (a := 32) (b := 28) (L := [.ref 75, .int a1]) (S := []) (z := (zS I J tg)) rfl c3 ?_
      refine Runs.sN 2 (c' := (33, [.ref 75, .int a1], [.int 1], (zS I J tg))) rfl ?_
      subst h
      exact Runs.rt rfl
-- X9_goal 
theorem sg_102 {L d : Nat} {xs : Nat → Int32} (I : Nat → Nat → Int32) (J : Nat → Nat → Int64) (tg : Option Nat) {r : Option Value × SS} (h : (¬ ((I 75 8) < 0 ∨ 12 ≤ (I 75 8).toNatClampNeg) ∧ (if (I 75 10) = (I 6 ((I 75 8).toNatClampNeg)) then (¬ ((I 75 8) < 0 ∨ 12 ≤ (I 75 8).toNatClampNeg) ∧ r = (some (.int (I 5 ((I 75 8).toNatClampNeg))), (zS I J tg))) else (r = (some (.int (-1)), (zS I J tg)))))) : Runs (GW L xs) d 102 (0, [.ref 75], [], (zS I J tg)) r := by
  refine Runs.sN 7 (c' := (15, [.ref 75], [.int (I 75 8), .ref 6, .int (I 75 10)], (zS I J tg))) rfl ?_
  obtain ⟨c1, h⟩ := h
  refine Runs.to (c' := (16, [.ref 75], [.int (I 6 ((I 75 8).toNatClampNeg)), .int (I 75 10)], (zS I J tg))) (Runs.zld rfl (show (6 : Nat) < 114 by decide) rfl c1) ?_
  by_cases c2 : (I 75 10) = (I 6 ((I 75 8).toNatClampNeg))
  · rw [if_pos c2] at h
    refine Runs.brT (P := (I 75 10) = (I 6 ((I 75 8).toNatClampNeg))) (a := 19) (b := 34) (L := [.ref 75]) (S := []) (z := (zS I J tg)) rfl c2 ?_
    refine Runs.sN 5 (c' := (30, [.ref 75], [.int (I 75 8), .ref 5], (zS I J tg))) rfl ?_
    obtain ⟨c3, h⟩ := h
    refine Runs.to (c' := (31, [.ref 75], [.int (I 5 ((I 75 8).toNatClampNeg))], (zS I J tg))) (Runs.ild rfl (show (5 : Nat) < 114 by decide) rfl c3) ?_
    refine Runs.sN 1 (c' := (35, [.ref 75], [.int (I 5 ((I 75 8).toNatClampNeg))], (zS I J tg))) rfl ?_
    subst h
    exact Runs.rt rfl
  · rw [if_neg c2] at h
    refine Runs.brF (P := (I 75 10) = (I 6 ((I 75 8).toNatClampNeg))) (a := 19) (b := 34) (L := [.ref 75]) (S := []) (z := (zS I J tg)) rfl c2 ?_
    refine Runs.sN 1 (c' := (35, [.ref 75], [.int (-1)], (zS I J tg))) rfl ?_
    subst h
    exact Runs.rt rfl
-- X9_isRight 
theorem sg_103 {L d : Nat} {xs : Nat → Int32} (I : Nat → Nat → Int32) (J : Nat → Nat → Int64) (tg : Option Nat) (a1 : Int32) (a2 : Int32) {r : Option Value × SS} (h : (∃ (v5 : Int32) (I6 : Nat → Nat → Int32), Runs (GW L xs) d 101 (0, [.ref 75, .int a1], [], (zS I J tg)) ((some (.int v5)), (zS I6 J tg)) ∧ (if v5 = 0 then ((if a2 = (-1) then (r = (some (.int 0), (zS I6 J tg))) else (∃ (v7 : Int32) (I8 : Nat → Nat → Int32), Runs (GW L xs) d 102 (0, [.ref 75], [], (zS I6 J tg)) ((some (.int v7)), (zS I8 J tg)) ∧ (if a2 = v7 then (r = (some (.int 1), (zS I8 J tg))) else (r = (some (.int 0), (zS I8 J tg))))))) else (r = (some (.int 1), (zS I6 J tg)))))) : Runs (GW L xs) (d + 1) 103 (0, [.ref 75, .int a1, .int a2], [], (zS I J tg)) r := by
  refine Runs.sN 2 (c' := (2, [.ref 75, .int a1, .int a2], [.int a1, .ref 75], (zS I J tg))) rfl ?_
  obtain ⟨v5, I6, c9, h⟩ := h
  refine Runs.cl (cm := 101) (as := [.ref 75, .int a1]) (rest := []) (r1 := ((some (.int v5)), (zS I6 J tg))) rfl (Nat.le_of_ble_eq_true rfl) c9 ?_
  refine Runs.as (c' := (5, [.ref 75, .int a1, .int a2], [.int v5], (zS I6 J tg))) rfl ?_
  by_cases c10 : v5 = 0
  · rw [if_pos c10] at h
    refine Runs.brT (P := v5 = 0) (a := 8) (b := 21) (L := [.ref 75, .int a1, .int a2]) (S := []) (z := (zS I6 J tg)) rfl c10 ?_
    refine Runs.sN 2 (c' := (10, [.ref 75, .int a1, .int a2], [.int (-1), .int a2], (zS I6 J tg))) rfl ?_
    by_cases c11 : a2 = (-1)
    · rw [if_pos c11] at h
      refine Runs.brT (P := a2 = (-1)) (a := 25) (b := 13) (L := [.ref 75, .int a1, .int a2]) (S := []) (z := (zS I6 J tg)) rfl c11 ?_
      refine Runs.sN 1 (c' := (26, [.ref 75, .int a1, .int a2], [.int 0], (zS I6 J tg))) rfl ?_
      subst h
      exact Runs.rt rfl
    · rw [if_neg c11] at h
      refine Runs.brF (P := a2 = (-1)) (a := 25) (b := 13) (L := [.ref 75, .int a1, .int a2]) (S := []) (z := (zS I6 J tg)) rfl c11 ?_
      refine Runs.sN 2 (c' := (15, [.ref 75, .int a1, .int a2], [.ref 75, .int a2], (zS I6 J tg))) rfl ?_
      obtain ⟨v7, I8, c12, h⟩ := h
      refine Runs.cl (cm := 102) (as := [.ref 75]) (rest := [.int a2]) (r1 := ((some (.int v7)), (zS I8 J tg))) rfl (Nat.le_of_ble_eq_true rfl) c12 ?_
      refine Runs.as (c' := (18, [.ref 75, .int a1, .int a2], [.int v7, .int a2], (zS I8 J tg))) rfl ?_
      by_cases c13 : a2 = v7
      · rw [if_pos c13] at h
        refine Runs.brT (P := a2 = v7) (a := 21) (b := 25) (L := [.ref 75, .int a1, .int a2]) (S := []) (z := (zS I8 J tg)) rfl c13 ?_
        refine Runs.sN 2 (c' := (26, [.ref 75, .int a1, .int a2], [.int 1], (zS I8 J tg))) rfl ?_
        subst h
        exact Runs.rt rfl
      · rw [if_neg c13] at h
        refine Runs.brF (P := a2 = v7) (a := 21) (b := 25) (L := [.ref 75, .int a1, .int a2]) (S := []) (z := (zS I8 J tg)) rfl c13 ?_
        refine Runs.sN 1 (c' := (26, [.ref 75, .int a1, .int a2], [.int 0], (zS I8 J tg))) rfl ?_
        subst h
        exact Runs.rt rfl
  · rw [if_neg c10] at h
    refine Runs.brF (P := v5 = 0) (a := 8) (b := 21) (L := [.ref 75, .int a1, .int a2]) (S := []) (z := (zS I6 J tg)) rfl c10 ?_
    refine Runs.sN 2 (c' := (26, [.ref 75, .int a1, .int a2], [.int 1], (zS I6 J tg))) rfl ?_
    subst h
    exact Runs.rt rfl
-- X9_allHarm 
theorem sg_105 {L d : Nat} {xs : Nat → Int32} (I : Nat → Nat → Int32) (J : Nat → Nat → Int64) (tg : Option Nat) {r : Option Value × SS} (h : (Runs (GW L xs) (d + 1) 105 (4, [.ref 75, .int 0, .int 0], [], (zS I J tg)) r)) : Runs (GW L xs) (d + 1) 105 (0, [.ref 75, vU, vU], [], (zS I J tg)) r := by
  refine Runs.sN 4 (c' := (4, [.ref 75, .int 0, .int 0], [], (zS I J tg))) rfl ?_
  exact h
theorem sg_105_4 {L d : Nat} {xs : Nat → Int32} (I : Nat → Nat → Int32) (J : Nat → Nat → Int64) (tg : Option Nat) (x1 : Int32) (x2 : Int32) {r : Option Value × SS} (h : ((if 6 ≤ x2 then (r = (some (.int x1), (zS I J tg))) else (¬ (x2 < 0 ∨ 6 ≤ (x2).toNatClampNeg) ∧ (if (I 8 ((x2).toNatClampNeg)) ≤ 0 then (Runs (GW L xs) (d + 1) 105 (4, [.ref 75, .int x1, .int (x2 + 1)], [], (zS I J tg)) r) else (¬ (x2 < 0 ∨ 6 ≤ (x2).toNatClampNeg) ∧ ¬ (x2 < 0 ∨ 6 ≤ (x2).toNatClampNeg) ∧ ∃ (v1 : Int32) (I2 : Nat → Nat → Int32), Runs (GW L xs) d 100 (0, [.ref 75, .int (I 9 ((x2).toNatClampNeg))], [], (zS I J tg)) ((some (.int v1)), (zS I2 J tg)) ∧ ∃ (v3 : Int32) (I4 : Nat → Nat → Int32), Runs (GW L xs) d 104 (0, [.ref 75, .int x2, .int v1, vU], [], (zS I2 J tg)) ((some (.int v3)), (zS I4 J tg)) ∧ Runs (GW L xs) (d + 1) 105 (4, [.ref 75, .int (x1 + ((I 8 ((x2).toNatClampNeg)) * v3)), .int (x2 + 1)], [], (zS I4 J tg)) r)))))) : Runs (GW L xs) (d + 1) 105 (4, [.ref 75, .int x1, .int x2], [], (zS I J tg)) r := by
  refine Runs.sN 2 (c' := (7, [.ref 75, .int x1, .int x2], [.int 6, .int x2], (zS I J tg))) rfl ?_
  by_cases c5 : 6 ≤ x2
  · rw [if_pos c5] at h
    refine Runs.brT (P := 6 ≤ x2) (a := 59) (b := 10) (L := [.ref 75, .int x1, .int x2]) (S := []) (z := (zS I J tg)) rfl c5 ?_
    refine Runs.sN 1 (c' := (60, [.ref 75, .int x1, .int x2], [.int x1], (zS I J tg))) rfl ?_
    subst h
    exact Runs.rt rfl
  · rw [if_neg c5] at h
    refine Runs.brF (P := 6 ≤ x2) (a := 59) (b := 10) (L := [.ref 75, .int x1, .int x2]) (S := []) (z := (zS I J tg)) rfl c5 ?_
    refine Runs.sN 4 (c' := (18, [.ref 75, .int x1, .int x2], [.int x2, .ref 8], (zS I J tg))) rfl ?_
    obtain ⟨c6, h⟩ := h
    refine Runs.to (c' := (19, [.ref 75, .int x1, .int x2], [.int (I 8 ((x2).toNatClampNeg))], (zS I J tg))) (Runs.ild rfl (show (8 : Nat) < 114 by decide) rfl c6) ?_
    by_cases c7 : (I 8 ((x2).toNatClampNeg)) ≤ 0
    · rw [if_pos c7] at h
      refine Runs.brT (P := (I 8 ((x2).toNatClampNeg)) ≤ 0) (a := 53) (b := 22) (L := [.ref 75, .int x1, .int x2]) (S := []) (z := (zS I J tg)) rfl c7 ?_
      refine Runs.sN 2 (c' := (4, [.ref 75, .int x1, .int (x2 + 1)], [], (zS I J tg))) rfl ?_
      exact h
    · rw [if_neg c7] at h
      refine Runs.brF (P := (I 8 ((x2).toNatClampNeg)) ≤ 0) (a := 53) (b := 22) (L := [.ref 75, .int x1, .int x2]) (S := []) (z := (zS I J tg)) rfl c7 ?_
      refine Runs.sN 5 (c' := (31, [.ref 75, .int x1, .int x2], [.int x2, .ref 8, .int x1], (zS I J tg))) rfl ?_
      obtain ⟨c8, h⟩ := h
      refine Runs.to (c' := (32, [.ref 75, .int x1, .int x2], [.int (I 8 ((x2).toNatClampNeg)), .int x1], (zS I J tg))) (Runs.ild rfl (show (8 : Nat) < 114 by decide) rfl c8) ?_
      refine Runs.sN 7 (c' := (43, [.ref 75, .int x1, .int x2], [.int x2, .ref 9, .ref 75, .int x2, .ref 75, .int (I 8 ((x2).toNatClampNeg)), .int x1], (zS I J tg))) rfl ?_
      obtain ⟨c9, h⟩ := h
      refine Runs.to (c' := (44, [.ref 75, .int x1, .int x2], [.int (I 9 ((x2).toNatClampNeg)), .ref 75, .int x2, .ref 75, .int (I 8 ((x2).toNatClampNeg)), .int x1], (zS I J tg))) (Runs.ild rfl (show (9 : Nat) < 114 by decide) rfl c9) ?_
      obtain ⟨v1, I2, c10, h⟩ := h
      refine Runs.cl (cm := 100) (as := [.ref 75, .int (I 9 ((x2).toNatClampNeg))]) (rest := [.int x2, .ref 75, .int (I 8 ((x2).toNatClampNeg)), .int x1]) (r1 := ((some (.int v1)), (zS I2 J tg))) rfl (Nat.le_of_ble_eq_true rfl) c10 ?_
      refine Runs.as (c' := (47, [.ref 75, .int x1, .int x2], [.int v1, .int x2, .ref 75, .int (I 8 ((x2).toNatClampNeg)), .int x1], (zS I2 J tg))) rfl ?_
      obtain ⟨v3, I4, c11, h⟩ := h
      refine Runs.cl (cm := 104) (as := [.ref 75, .int x2, .int v1]) (rest := [.int (I 8 ((x2).toNatClampNeg)), .int x1]) (r1 := ((some (.int v3)), (zS I4 J tg))) rfl (Nat.le_of_ble_eq_true rfl) c11 ?_
      refine Runs.as (c' := (50, [.ref 75, .int x1, .int x2], [.int v3, .int (I 8 ((x2).toNatClampNeg)), .int x1], (zS I4 J tg))) rfl ?_
      refine Runs.sN 5 (c' := (4, [.ref 75, .int (x1 + ((I 8 ((x2).toNatClampNeg)) * v3)), .int (x2 + 1)], [], (zS I4 J tg))) rfl ?_
      exact h
-- X9_rightShares 
theorem sg_106 {L d : Nat} {xs : Nat → Int32} (I : Nat → Nat → Int32) (J : Nat → Nat → Int64) (tg : Option Nat) {r : Option Value × SS} (h : (Runs (GW L xs) (d + 1) 106 (4, [.ref 75, .int 0, .int 0], [], (zS I J tg)) r)) : Runs (GW L xs) (d + 1) 106 (0, [.ref 75, vU, vU], [], (zS I J tg)) r := by
  refine Runs.sN 4 (c' := (4, [.ref 75, .int 0, .int 0], [], (zS I J tg))) rfl ?_
  exact h
theorem sg_106_4 {L d : Nat} {xs : Nat → Int32} (I : Nat → Nat → Int32) (J : Nat → Nat → Int64) (tg : Option Nat) (x1 : Int32) (x2 : Int32) {r : Option Value × SS} (h : ((if 6 ≤ x2 then (r = (some (.int x1), (zS I J tg))) else (¬ (x2 < 0 ∨ 6 ≤ (x2).toNatClampNeg) ∧ (if (I 8 ((x2).toNatClampNeg)) ≤ 0 then (Runs (GW L xs) (d + 1) 106 (4, [.ref 75, .int x1, .int (x2 + 1)], [], (zS I J tg)) r) else (¬ (x2 < 0 ∨ 6 ≤ (x2).toNatClampNeg) ∧ ∃ (v1 : Int32) (I2 : Nat → Nat → Int32), Runs (GW L xs) d 100 (0, [.ref 75, .int (I 9 ((x2).toNatClampNeg))], [], (zS I J tg)) ((some (.int v1)), (zS I2 J tg)) ∧ ∃ (v3 : Int32) (I4 : Nat → Nat → Int32), Runs (GW L xs) d 103 (0, [.ref 75, .int x2, .int v1], [], (zS I2 J tg)) ((some (.int v3)), (zS I4 J tg)) ∧ (if v3 = 0 then (Runs (GW L xs) (d + 1) 106 (4, [.ref 75, .int x1, .int (x2 + 1)], [], (zS I4 J tg)) r) else (¬ (x2 < 0 ∨ 6 ≤ (x2).toNatClampNeg) ∧ Runs (GW L xs) (d + 1) 106 (4, [.ref 75, .int (x1 + (I4 8 ((x2).toNatClampNeg))), .int (x2 + 1)], [], (zS I4 J tg)) r)))))))) : Runs (GW L xs) (d + 1) 106 (4, [.ref 75, .int x1, .int x2], [], (zS I J tg)) r := by
  refine Runs.sN 2 (c' := (7, [.ref 75, .int x1, .int x2], [.int 6, .int x2], (zS I J tg))) rfl ?_
  by_cases c5 : 6 ≤ x2
  · rw [if_pos c5] at h
    refine Runs.brT (P := 6 ≤ x2) (a := 61) (b := 10) (L := [.ref 75, .int x1, .int x2]) (S := []) (z := (zS I J tg)) rfl c5 ?_
    refine Runs.sN 1 (c' := (62, [.ref 75, .int x1, .int x2], [.int x1], (zS I J tg))) rfl ?_
    subst h
    exact Runs.rt rfl
  · rw [if_neg c5] at h
    refine Runs.brF (P := 6 ≤ x2) (a := 61) (b := 10) (L := [.ref 75, .int x1, .int x2]) (S := []) (z := (zS I J tg)) rfl c5 ?_
    refine Runs.sN 4 (c' := (18, [.ref 75, .int x1, .int x2], [.int x2, .ref 8], (zS I J tg))) rfl ?_
    obtain ⟨c6, h⟩ := h
    refine Runs.to (c' := (19, [.ref 75, .int x1, .int x2], [.int (I 8 ((x2).toNatClampNeg))], (zS I J tg))) (Runs.ild rfl (show (8 : Nat) < 114 by decide) rfl c6) ?_
    by_cases c7 : (I 8 ((x2).toNatClampNeg)) ≤ 0
    · rw [if_pos c7] at h
      refine Runs.brT (P := (I 8 ((x2).toNatClampNeg)) ≤ 0) (a := 55) (b := 22) (L := [.ref 75, .int x1, .int x2]) (S := []) (z := (zS I J tg)) rfl c7 ?_
      refine Runs.sN 2 (c' := (4, [.ref 75, .int x1, .int (x2 + 1)], [], (zS I J tg))) rfl ?_
      exact h
    · rw [if_neg c7] at h
      refine Runs.brF (P := (I 8 ((x2).toNatClampNeg)) ≤ 0) (a := 55) (b := 22) (L := [.ref 75, .int x1, .int x2]) (S := []) (z := (zS I J tg)) rfl c7 ?_
      refine Runs.sN 7 (c' := (33, [.ref 75, .int x1, .int x2], [.int x2, .ref 9, .ref 75, .int x2, .ref 75], (zS I J tg))) rfl ?_
      obtain ⟨c8, h⟩ := h
      refine Runs.to (c' := (34, [.ref 75, .int x1, .int x2], [.int (I 9 ((x2).toNatClampNeg)), .ref 75, .int x2, .ref 75], (zS I J tg))) (Runs.ild rfl (show (9 : Nat) < 114 by decide) rfl c8) ?_
      obtain ⟨v1, I2, c9, h⟩ := h
      refine Runs.cl (cm := 100) (as := [.ref 75, .int (I 9 ((x2).toNatClampNeg))]) (rest := [.int x2, .ref 75]) (r1 := ((some (.int v1)), (zS I2 J tg))) rfl (Nat.le_of_ble_eq_true rfl) c9 ?_
      refine Runs.as (c' := (37, [.ref 75, .int x1, .int x2], [.int v1, .int x2, .ref 75], (zS I2 J tg))) rfl ?_
      obtain ⟨v3, I4, c10, h⟩ := h
      refine Runs.cl (cm := 103) (as := [.ref 75, .int x2, .int v1]) (rest := []) (r1 := ((some (.int v3)), (zS I4 J tg))) rfl (Nat.le_of_ble_eq_true rfl) c10 ?_
      refine Runs.as (c' := (40, [.ref 75, .int x1, .int x2], [.int v3], (zS I4 J tg))) rfl ?_
      by_cases c11 : v3 = 0
      · rw [if_pos c11] at h
        refine Runs.brT (P := v3 = 0) (a := 55) (b := 43) (L := [.ref 75, .int x1, .int x2]) (S := []) (z := (zS I4 J tg)) rfl c11 ?_
        refine Runs.sN 2 (c' := (4, [.ref 75, .int x1, .int (x2 + 1)], [], (zS I4 J tg))) rfl ?_
        exact h
      · rw [if_neg c11] at h
        refine Runs.brF (P := v3 = 0) (a := 55) (b := 43) (L := [.ref 75, .int x1, .int x2]) (S := []) (z := (zS I4 J tg)) rfl c11 ?_
        refine Runs.sN 5 (c' := (52, [.ref 75, .int x1, .int x2], [.int x2, .ref 8, .int x1], (zS I4 J tg))) rfl ?_
        obtain ⟨c12, h⟩ := h
        refine Runs.to (c' := (53, [.ref 75, .int x1, .int x2], [.int (I4 8 ((x2).toNatClampNeg)), .int x1], (zS I4 J tg))) (Runs.ild rfl (show (8 : Nat) < 114 by decide) rfl c12) ?_
        refine Runs.sN 4 (c' := (4, [.ref 75, .int (x1 + (I4 8 ((x2).toNatClampNeg))), .int (x2 + 1)], [], (zS I4 J tg))) rfl ?_
        exact h
-- X9_seekWorst 
theorem sg_107 {L d : Nat} {xs : Nat → Int32} (I : Nat → Nat → Int32) (J : Nat → Nat → Int64) (tg : Option Nat) (a1 : Int32) (a2 : Int32) (a3 : Int32) {r : Option Value × SS} (h : (∃ (I15 : Nat → Nat → Int32), Runs (GW L xs) d 92 (0, [.ref 75, .int a1, .int a2, vU], [], (zS I J tg)) (none, (zS I15 J tg)) ∧ ∃ (I16 : Nat → Nat → Int32), Runs (GW L xs) d 93 (0, [.ref 75, .int a1, .int a2], [], (zS I15 J tg)) (none, (zS I16 J tg)) ∧ ∃ (I17 : Nat → Nat → Int32), Runs (GW L xs) d 301 (0, [.ref 76, .int (-1), vU, vU], [], (zS I16 J tg)) (none, (zS I17 J tg)) ∧ Runs (GW L xs) (d + 1) 107 (28, [.ref 75, .int a1, .int a2, .int a3, .int 0, vU], [], (zS (up2 I17 75 11 (-1)) J tg)) r)) : Runs (GW L xs) (d + 1) 107 (0, [.ref 75, .int a1, .int a2, .int a3, vU, vU], [], (zS I J tg)) r := by
  refine Runs.sN 3 (c' := (3, [.ref 75, .int a1, .int a2, .int a3, vU, vU], [.int a2, .int a1, .ref 75], (zS I J tg))) rfl ?_
  obtain ⟨I15, c18, h⟩ := h
  refine Runs.cl (cm := 92) (as := [.ref 75, .int a1, .int a2]) (rest := []) (r1 := (none, (zS I15 J tg))) rfl (Nat.le_of_ble_eq_true rfl) c18 ?_
  refine Runs.as (c' := (6, [.ref 75, .int a1, .int a2, .int a3, vU, vU], [], (zS I15 J tg))) rfl ?_
  refine Runs.sN 3 (c' := (9, [.ref 75, .int a1, .int a2, .int a3, vU, vU], [.int a2, .int a1, .ref 75], (zS I15 J tg))) rfl ?_
  obtain ⟨I16, c19, h⟩ := h
  refine Runs.cl (cm := 93) (as := [.ref 75, .int a1, .int a2]) (rest := []) (r1 := (none, (zS I16 J tg))) rfl (Nat.le_of_ble_eq_true rfl) c19 ?_
  refine Runs.as (c' := (12, [.ref 75, .int a1, .int a2, .int a3, vU, vU], [], (zS I16 J tg))) rfl ?_
  refine Runs.sN 3 (c' := (17, [.ref 75, .int a1, .int a2, .int a3, vU, vU], [.int (-1), .ref 76], (zS I16 J tg))) rfl ?_
  obtain ⟨I17, c20, h⟩ := h
  refine Runs.cl (cm := 301) (as := [.ref 76, .int (-1)]) (rest := []) (r1 := (none, (zS I17 J tg))) rfl (Nat.le_of_ble_eq_true rfl) c20 ?_
  refine Runs.as (c' := (20, [.ref 75, .int a1, .int a2, .int a3, vU, vU], [], (zS I17 J tg))) rfl ?_
  refine Runs.sN 5 (c' := (28, [.ref 75, .int a1, .int a2, .int a3, .int 0, vU], [], (zS (up2 I17 75 11 (-1)) J tg))) rfl ?_
  exact h
theorem sg_107_28 {L d : Nat} {xs : Nat → Int32} (I : Nat → Nat → Int32) (J : Nat → Nat → Int64) (tg : Option Nat) (x1 : Int32) (x2 : Int32) (x3 : Int32) (x4 : Int32) {r : Option Value × SS} (h : (∃ (v1 : Int32) (I2 : Nat → Nat → Int32), Runs (GW L xs) d 48 (0, [.ref 1], [], (zS I J tg)) ((some (.int v1)), (zS I2 J tg)) ∧ (if v1 < x4 then (r = (none, (zS I2 J tg))) else (∃ (v3 : Int32) (I4 : Nat → Nat → Int32), Runs (GW L xs) d 300 (0, [.int x4], [], (zS I2 J tg)) ((some (.int v3)), (zS I4 J tg)) ∧ (if v3 = x3 then (∃ (v5 : Int32) (I6 : Nat → Nat → Int32), Runs (GW L xs) d 100 (0, [.ref 75, .int x4], [], (zS I4 J tg)) ((some (.int v5)), (zS I6 J tg)) ∧ ¬ ((v5 + 1) < 0 ∨ 13 ≤ (v5 + 1).toNatClampNeg) ∧ (if (I6 76 ((v5 + 1).toNatClampNeg)) = (-1) then (∃ (v7 : Int32) (I8 : Nat → Nat → Int32), Runs (GW L xs) d 104 (0, [.ref 75, .int (-1), .int v5, vU], [], (zS I6 J tg)) ((some (.int v7)), (zS I8 J tg)) ∧ ¬ ((v5 + 1) < 0 ∨ 13 ≤ (v5 + 1).toNatClampNeg) ∧ ¬ ((v5 + 1) < 0 ∨ 13 ≤ (v5 + 1).toNatClampNeg) ∧ (if ((up2 I8 76 ((v5 + 1).toNatClampNeg) v7) 76 ((v5 + 1).toNatClampNeg)) ≤ (I8 75 11) then (Runs (GW L xs) (d + 1) 107 (28, [.ref 75, .int x1, .int x2, .int x3, .int (x4 + 1), vU], [], (zS (up2 I8 76 ((v5 + 1).toNatClampNeg) v7) J tg)) r) else (¬ ((v5 + 1) < 0 ∨ 13 ≤ (v5 + 1).toNatClampNeg) ∧ Runs (GW L xs) (d + 1) 107 (28, [.ref 75, .int x1, .int x2, .int x3, .int (x4 + 1), vU], [], (zS (up2 (up2 (up2 I8 76 ((v5 + 1).toNatClampNeg) v7) 75 11 ((up2 I8 76 ((v5 + 1).toNatClampNeg) v7) 76 ((v5 + 1).toNatClampNeg))) 75 12 x4) J tg)) r))) else (¬ ((v5 + 1) < 0 ∨ 13 ≤ (v5 + 1).toNatClampNeg) ∧ (if (I6 76 ((v5 + 1).toNatClampNeg)) ≤ (I6 75 11) then (Runs (GW L xs) (d + 1) 107 (28, [.ref 75, .int x1, .int x2, .int x3, .int (x4 + 1), vU], [], (zS I6 J tg)) r) else (¬ ((v5 + 1) < 0 ∨ 13 ≤ (v5 + 1).toNatClampNeg) ∧ Runs (GW L xs) (d + 1) 107 (28, [.ref 75, .int x1, .int x2, .int x3, .int (x4 + 1), vU], [], (zS (up2 (up2 I6 75 11 (I6 76 ((v5 + 1).toNatClampNeg))) 75 12 x4) J tg)) r))))) else (Runs (GW L xs) (d + 1) 107 (28, [.ref 75, .int x1, .int x2, .int x3, .int (x4 + 1), vU], [], (zS I4 J tg)) r)))))) : Runs (GW L xs) (d + 1) 107 (28, [.ref 75, .int x1, .int x2, .int x3, .int x4, vU], [], (zS I J tg)) r := by
  refine Runs.sN 3 (c' := (34, [.ref 75, .int x1, .int x2, .int x3, .int x4, vU], [.ref 1, .int x4], (zS I J tg))) rfl ?_
  obtain ⟨v1, I2, c9, h⟩ := h
  refine Runs.cl (cm := 48) (as := [.ref 1]) (rest := [.int x4]) (r1 := ((some (.int v1)), (zS I2 J tg))) rfl (Nat.le_of_ble_eq_true rfl) c9 ?_
  refine Runs.as (c' := (37, [.ref 75, .int x1, .int x2, .int x3, .int x4, vU], [.int v1, .int x4], (zS I2 J tg))) rfl ?_
  by_cases c10 : v1 < x4
  · rw [if_pos c10] at h
    refine Runs.brT (P := v1 < x4) (a := 130) (b := 40) (L := [.ref 75, .int x1, .int x2, .int x3, .int x4, vU]) (S := []) (z := (zS I2 J tg)) rfl c10 ?_
    subst h
    exact Runs.rt rfl
  · rw [if_neg c10] at h
    refine Runs.brF (P := v1 < x4) (a := 130) (b := 40) (L := [.ref 75, .int x1, .int x2, .int x3, .int x4, vU]) (S := []) (z := (zS I2 J tg)) rfl c10 ?_
    refine Runs.sN 1 (c' := (42, [.ref 75, .int x1, .int x2, .int x3, .int x4, vU], [.int x4], (zS I2 J tg))) rfl ?_
    obtain ⟨v3, I4, c11, h⟩ := h
    refine Runs.cl (cm := 300) (as := [.int x4]) (rest := []) (r1 := ((some (.int v3)), (zS I4 J tg))) rfl (Nat.le_of_ble_eq_true rfl) c11 ?_
    refine Runs.as (c' := (45, [.ref 75, .int x1, .int x2, .int x3, .int x4, vU], [.int v3], (zS I4 J tg))) rfl ?_
    refine Runs.sN 1 (c' := (46, [.ref 75, .int x1, .int x2, .int x3, .int x4, vU], [.int x3, .int v3], (zS I4 J tg))) rfl ?_
    by_cases c12 : v3 = x3
    · rw [if_pos c12] at h
      refine Runs.brT (P := v3 = x3) (a := 52) (b := 49) (L := [.ref 75, .int x1, .int x2, .int x3, .int x4, vU]) (S := []) (z := (zS I4 J tg)) rfl c12 ?_
      refine Runs.sN 2 (c' := (55, [.ref 75, .int x1, .int x2, .int x3, .int x4, vU], [.int x4, .ref 75], (zS I4 J tg))) rfl ?_
      obtain ⟨v5, I6, c13, h⟩ := h
      refine Runs.cl (cm := 100) (as := [.ref 75, .int x4]) (rest := []) (r1 := ((some (.int v5)), (zS I6 J tg))) rfl (Nat.le_of_ble_eq_true rfl) c13 ?_
      refine Runs.as (c' := (58, [.ref 75, .int x1, .int x2, .int x3, .int x4, vU], [.int v5], (zS I6 J tg))) rfl ?_
      refine Runs.sN 6 (c' := (68, [.ref 75, .int x1, .int x2, .int x3, .int x4, .int v5], [.int (v5 + 1), .ref 76], (zS I6 J tg))) rfl ?_
      obtain ⟨c14, h⟩ := h
      refine Runs.to (c' := (69, [.ref 75, .int x1, .int x2, .int x3, .int x4, .int v5], [.int (I6 76 ((v5 + 1).toNatClampNeg))], (zS I6 J tg))) (Runs.ild rfl (show (76 : Nat) < 114 by decide) rfl c14) ?_
      refine Runs.sN 1 (c' := (70, [.ref 75, .int x1, .int x2, .int x3, .int x4, .int v5], [.int (-1), .int (I6 76 ((v5 + 1).toNatClampNeg))], (zS I6 J tg))) rfl ?_
      by_cases c15 : (I6 76 ((v5 + 1).toNatClampNeg)) = (-1)
      · rw [if_pos c15] at h
        refine Runs.brT (P := (I6 76 ((v5 + 1).toNatClampNeg)) = (-1)) (a := 73) (b := 89) (L := [.ref 75, .int x1, .int x2, .int x3, .int x4, .int v5]) (S := []) (z := (zS I6 J tg)) rfl c15 ?_
        refine Runs.sN 8 (c' := (85, [.ref 75, .int x1, .int x2, .int x3, .int x4, .int v5], [.int v5, .int (-1), .ref 75, .int (v5 + 1), .ref 76], (zS I6 J tg))) rfl ?_
        obtain ⟨v7, I8, c16, h⟩ := h
        refine Runs.cl (cm := 104) (as := [.ref 75, .int (-1), .int v5]) (rest := [.int (v5 + 1), .ref 76]) (r1 := ((some (.int v7)), (zS I8 J tg))) rfl (Nat.le_of_ble_eq_true rfl) c16 ?_
        refine Runs.as (c' := (88, [.ref 75, .int x1, .int x2, .int x3, .int x4, .int v5], [.int v7, .int (v5 + 1), .ref 76], (zS I8 J tg))) rfl ?_
        obtain ⟨c17, h⟩ := h
        refine Runs.to (c' := (89, [.ref 75, .int x1, .int x2, .int x3, .int x4, .int v5], [], (zS (up2 I8 76 ((v5 + 1).toNatClampNeg) v7) J tg))) (Runs.ist rfl (show (76 : Nat) < 114 by decide) rfl c17) ?_
        refine Runs.sN 5 (c' := (97, [.ref 75, .int x1, .int x2, .int x3, .int x4, .int v5], [.int (v5 + 1), .ref 76], (zS (up2 I8 76 ((v5 + 1).toNatClampNeg) v7) J tg))) rfl ?_
        obtain ⟨c18, h⟩ := h
        refine Runs.to (c' := (98, [.ref 75, .int x1, .int x2, .int x3, .int x4, .int v5], [.int ((up2 I8 76 ((v5 + 1).toNatClampNeg) v7) 76 ((v5 + 1).toNatClampNeg))], (zS (up2 I8 76 ((v5 + 1).toNatClampNeg) v7) J tg))) (Runs.ild rfl (show (76 : Nat) < 114 by decide) rfl c18) ?_
        refine Runs.sN 2 (c' := (102, [.ref 75, .int x1, .int x2, .int x3, .int x4, .int v5], [.int (I8 75 11), .int ((up2 I8 76 ((v5 + 1).toNatClampNeg) v7) 76 ((v5 + 1).toNatClampNeg))], (zS (up2 I8 76 ((v5 + 1).toNatClampNeg) v7) J tg))) rfl ?_
        by_cases c19 : ((up2 I8 76 ((v5 + 1).toNatClampNeg) v7) 76 ((v5 + 1).toNatClampNeg)) ≤ (I8 75 11)
        · rw [if_pos c19] at h
          refine Runs.brT (P := ((up2 I8 76 ((v5 + 1).toNatClampNeg) v7) 76 ((v5 + 1).toNatClampNeg)) ≤ (I8 75 11)) (a := 124) (b := 105) (L := [.ref 75, .int x1, .int x2, .int x3, .int x4, .int v5]) (S := []) (z := (zS (up2 I8 76 ((v5 + 1).toNatClampNeg) v7) J tg)) rfl c19 ?_
          refine Runs.sN 2 (c' := (28, [.ref 75, .int x1, .int x2, .int x3, .int (x4 + 1), .int v5], [], (zS (up2 I8 76 ((v5 + 1).toNatClampNeg) v7) J tg))) rfl ?_
          exact Runs.weak (L := [.ref 75, .int x1, .int x2, .int x3, .int (x4 + 1), vU]) (Lle.k (Lle.k (Lle.k (Lle.k (Lle.k (Lle.u Lle.n)))))) h
        · rw [if_neg c19] at h
          refine Runs.brF (P := ((up2 I8 76 ((v5 + 1).toNatClampNeg) v7) 76 ((v5 + 1).toNatClampNeg)) ≤ (I8 75 11)) (a := 124) (b := 105) (L := [.ref 75, .int x1, .int x2, .int x3, .int x4, .int v5]) (S := []) (z := (zS (up2 I8 76 ((v5 + 1).toNatClampNeg) v7) J tg)) rfl c19 ?_
          refine Runs.sN 6 (c' := (114, [.ref 75, .int x1, .int x2, .int x3, .int x4, .int v5], [.int (v5 + 1), .ref 76, .ref 75], (zS (up2 I8 76 ((v5 + 1).toNatClampNeg) v7) J tg))) rfl ?_
          obtain ⟨c20, h⟩ := h
          refine Runs.to (c' := (115, [.ref 75, .int x1, .int x2, .int x3, .int x4, .int v5], [.int ((up2 I8 76 ((v5 + 1).toNatClampNeg) v7) 76 ((v5 + 1).toNatClampNeg)), .ref 75], (zS (up2 I8 76 ((v5 + 1).toNatClampNeg) v7) J tg))) (Runs.ild rfl (show (76 : Nat) < 114 by decide) rfl c20) ?_
          refine Runs.sN 6 (c' := (28, [.ref 75, .int x1, .int x2, .int x3, .int (x4 + 1), .int v5], [], (zS (up2 (up2 (up2 I8 76 ((v5 + 1).toNatClampNeg) v7) 75 11 ((up2 I8 76 ((v5 + 1).toNatClampNeg) v7) 76 ((v5 + 1).toNatClampNeg))) 75 12 x4) J tg))) rfl ?_
          exact Runs.weak (L := [.ref 75, .int x1, .int x2, .int x3, .int (x4 + 1), vU]) (Lle.k (Lle.k (Lle.k (Lle.k (Lle.k (Lle.u Lle.n)))))) h
      · rw [if_neg c15] at h
        refine Runs.brF (P := (I6 76 ((v5 + 1).toNatClampNeg)) = (-1)) (a := 73) (b := 89) (L := [.ref 75, .int x1, .int x2, .int x3, .int x4, .int v5]) (S := []) (z := (zS I6 J tg)) rfl c15 ?_
        refine Runs.sN 5 (c' := (97, [.ref 75, .int x1, .int x2, .int x3, .int x4, .int v5], [.int (v5 + 1), .ref 76], (zS I6 J tg))) rfl ?_
        obtain ⟨c21, h⟩ := h
        refine Runs.to (c' := (98, [.ref 75, .int x1, .int x2, .int x3, .int x4, .int v5], [.int (I6 76 ((v5 + 1).toNatClampNeg))], (zS I6 J tg))) (Runs.ild rfl (show (76 : Nat) < 114 by decide) rfl c21) ?_
        refine Runs.sN 2 (c' := (102, [.ref 75, .int x1, .int x2, .int x3, .int x4, .int v5], [.int (I6 75 11), .int (I6 76 ((v5 + 1).toNatClampNeg))], (zS I6 J tg))) rfl ?_
        by_cases c22 : (I6 76 ((v5 + 1).toNatClampNeg)) ≤ (I6 75 11)
        · rw [if_pos c22] at h
          refine Runs.brT (P := (I6 76 ((v5 + 1).toNatClampNeg)) ≤ (I6 75 11)) (a := 124) (b := 105) (L := [.ref 75, .int x1, .int x2, .int x3, .int x4, .int v5]) (S := []) (z := (zS I6 J tg)) rfl c22 ?_
          refine Runs.sN 2 (c' := (28, [.ref 75, .int x1, .int x2, .int x3, .int (x4 + 1), .int v5], [], (zS I6 J tg))) rfl ?_
          exact Runs.weak (L := [.ref 75, .int x1, .int x2, .int x3, .int (x4 + 1), vU]) (Lle.k (Lle.k (Lle.k (Lle.k (Lle.k (Lle.u Lle.n)))))) h
        · rw [if_neg c22] at h
          refine Runs.brF (P := (I6 76 ((v5 + 1).toNatClampNeg)) ≤ (I6 75 11)) (a := 124) (b := 105) (L := [.ref 75, .int x1, .int x2, .int x3, .int x4, .int v5]) (S := []) (z := (zS I6 J tg)) rfl c22 ?_
          refine Runs.sN 6 (c' := (114, [.ref 75, .int x1, .int x2, .int x3, .int x4, .int v5], [.int (v5 + 1), .ref 76, .ref 75], (zS I6 J tg))) rfl ?_
          obtain ⟨c23, h⟩ := h
          refine Runs.to (c' := (115, [.ref 75, .int x1, .int x2, .int x3, .int x4, .int v5], [.int (I6 76 ((v5 + 1).toNatClampNeg)), .ref 75], (zS I6 J tg))) (Runs.ild rfl (show (76 : Nat) < 114 by decide) rfl c23) ?_
          refine Runs.sN 6 (c' := (28, [.ref 75, .int x1, .int x2, .int x3, .int (x4 + 1), .int v5], [], (zS (up2 (up2 I6 75 11 (I6 76 ((v5 + 1).toNatClampNeg))) 75 12 x4) J tg))) rfl ?_
          exact Runs.weak (L := [.ref 75, .int x1, .int x2, .int x3, .int (x4 + 1), vU]) (Lle.k (Lle.k (Lle.k (Lle.k (Lle.k (Lle.u Lle.n)))))) h
    · rw [if_neg c12] at h
      refine Runs.brF (P := v3 = x3) (a := 52) (b := 49) (L := [.ref 75, .int x1, .int x2, .int x3, .int x4, vU]) (S := []) (z := (zS I4 J tg)) rfl c12 ?_
      refine Runs.sN 3 (c' := (28, [.ref 75, .int x1, .int x2, .int x3, .int (x4 + 1), vU], [], (zS I4 J tg))) rfl ?_
      exact h
-- X10_allShares 
theorem sg_109 {L d : Nat} {xs : Nat → Int32} (I : Nat → Nat → Int32) (J : Nat → Nat → Int64) (tg : Option Nat) {r : Option Value × SS} (h : (Runs (GW L xs) d 109 (4, [.ref 7, .int 0, .int 0], [], (zS I J tg)) r)) : Runs (GW L xs) d 109 (0, [.ref 7, vU, vU], [], (zS I J tg)) r := by
  refine Runs.sN 4 (c' := (4, [.ref 7, .int 0, .int 0], [], (zS I J tg))) rfl ?_
  exact h
theorem sg_109_4 {L d : Nat} {xs : Nat → Int32} (I : Nat → Nat → Int32) (J : Nat → Nat → Int64) (tg : Option Nat) (x1 : Int32) (x2 : Int32) {r : Option Value × SS} (h : ((if 6 ≤ x2 then (r = (some (.int x1), (zS I J tg))) else (¬ (x2 < 0 ∨ 6 ≤ (x2).toNatClampNeg) ∧ Runs (GW L xs) d 109 (4, [.ref 7, .int (x1 + (I 8 ((x2).toNatClampNeg))), .int (x2 + 1)], [], (zS I J tg)) r)))) : Runs (GW L xs) d 109 (4, [.ref 7, .int x1, .int x2], [], (zS I J tg)) r := by
  refine Runs.sN 2 (c' := (7, [.ref 7, .int x1, .int x2], [.int 6, .int x2], (zS I J tg))) rfl ?_
  by_cases c1 : 6 ≤ x2
  · rw [if_pos c1] at h
    refine Runs.brT (P := 6 ≤ x2) (a := 25) (b := 10) (L := [.ref 7, .int x1, .int x2]) (S := []) (z := (zS I J tg)) rfl c1 ?_
    refine Runs.sN 1 (c' := (26, [.ref 7, .int x1, .int x2], [.int x1], (zS I J tg))) rfl ?_
    subst h
    exact Runs.rt rfl
  · rw [if_neg c1] at h
    refine Runs.brF (P := 6 ≤ x2) (a := 25) (b := 10) (L := [.ref 7, .int x1, .int x2]) (S := []) (z := (zS I J tg)) rfl c1 ?_
    refine Runs.sN 4 (c' := (16, [.ref 7, .int x1, .int x2], [.int x2, .ref 8, .int x1], (zS I J tg))) rfl ?_
    obtain ⟨c2, h⟩ := h
    refine Runs.to (c' := (17, [.ref 7, .int x1, .int x2], [.int (I 8 ((x2).toNatClampNeg)), .int x1], (zS I J tg))) (Runs.ild rfl (show (8 : Nat) < 114 by decide) rfl c2) ?_
    refine Runs.sN 4 (c' := (4, [.ref 7, .int (x1 + (I 8 ((x2).toNatClampNeg))), .int (x2 + 1)], [], (zS I J tg))) rfl ?_
    exact h
-- X10_afterTelling 
theorem sg_110 {L d : Nat} {xs : Nat → Int32} (I : Nat → Nat → Int32) (J : Nat → Nat → Int64) (tg : Option Nat) (a1 : Int32) {r : Option Value × SS} (h : (r = (some (.int (if (a1 + (I 7 2)) < 1000 then (a1 + (I 7 2)) else 1000)), (zS I J tg)))) : Runs (GW L xs) d 110 (0, [.ref 7, .int a1], [], (zS I J tg)) r := by
  refine Runs.sN 6 (c' := (12, [.ref 7, .int a1], [.int (if (a1 + (I 7 2)) < 1000 then (a1 + (I 7 2)) else 1000)], (zS I J tg))) rfl ?_
  subst h
  exact Runs.rt rfl
-- X10_afterWeeks 
theorem sg_111 {L d : Nat} {xs : Nat → Int32} (I : Nat → Nat → Int32) (J : Nat → Nat → Int64) (tg : Option Nat) (a1 : Int32) (a2 : Int32) {r : Option Value × SS} (h : (Runs (GW L xs) d 111 (5, [.ref 7, .int a1, .int a2, .int a1, .int 0], [], (zS I J tg)) r)) : Runs (GW L xs) d 111 (0, [.ref 7, .int a1, .int a2, vU, vU], [], (zS I J tg)) r := by
  refine Runs.sN 4 (c' := (5, [.ref 7, .int a1, .int a2, .int a1, .int 0], [], (zS I J tg))) rfl ?_
  exact h
theorem sg_111_5 {L d : Nat} {xs : Nat → Int32} (I : Nat → Nat → Int32) (J : Nat → Nat → Int64) (tg : Option Nat) (x1 : Int32) (x2 : Int32) (x3 : Int32) (x4 : Int32) {r : Option Value × SS} (h : ((if x2 ≤ x4 then (r = (some (.int x3), (zS I J tg))) else (Runs (GW L xs) d 111 (5, [.ref 7, .int x1, .int x2, .int (x3 - ((x3 * (I 7 3)) / 1000)), .int (x4 + 1)], [], (zS I J tg)) r)))) : Runs (GW L xs) d 111 (5, [.ref 7, .int x1, .int x2, .int x3, .int x4], [], (zS I J tg)) r := by
  refine Runs.sN 2 (c' := (8, [.ref 7, .int x1, .int x2, .int x3, .int x4], [.int x2, .int x4], (zS I J tg))) rfl ?_
  by_cases c1 : x2 ≤ x4
  · rw [if_pos c1] at h
    refine Runs.brT (P := x2 ≤ x4) (a := 30) (b := 11) (L := [.ref 7, .int x1, .int x2, .int x3, .int x4]) (S := []) (z := (zS I J tg)) rfl c1 ?_
    refine Runs.sN 1 (c' := (31, [.ref 7, .int x1, .int x2, .int x3, .int x4], [.int x3], (zS I J tg))) rfl ?_
    subst h
    exact Runs.rt rfl
  · rw [if_neg c1] at h
    refine Runs.brF (P := x2 ≤ x4) (a := 30) (b := 11) (L := [.ref 7, .int x1, .int x2, .int x3, .int x4]) (S := []) (z := (zS I J tg)) rfl c1 ?_
    refine Runs.sN 11 (c' := (5, [.ref 7, .int x1, .int x2, .int (x3 - ((x3 * (I 7 3)) / 1000)), .int (x4 + 1)], [], (zS I J tg))) rfl ?_
    exact h
-- X10_groupOf 
theorem sg_112 {L d : Nat} {xs : Nat → Int32} (I : Nat → Nat → Int32) (J : Nat → Nat → Int64) (tg : Option Nat) (a1 : Int32) {r : Option Value × SS} (h : ((if a1 = (-1) then (r = (some (.int 0), (zS I J tg))) else (¬ (a1 < 0 ∨ 12 ≤ (a1).toNatClampNeg) ∧ r = (some (.int (I 11 ((a1).toNatClampNeg))), (zS I J tg)))))) : Runs (GW L xs) d 112 (0, [.ref 7, .int a1], [], (zS I J tg)) r := by
  refine Runs.sN 2 (c' := (2, [.ref 7, .int a1], [.int (-1), .int a1], (zS I J tg))) rfl ?_
  by_cases c1 : a1 = (-1)
  · rw [if_pos c1] at h
    refine Runs.brT (P := a1 = (-1)) (a := 5) (b := 9) (L := [.ref 7, .int a1]) (S := []) (z := (zS I J tg)) rfl c1 ?_
    refine Runs.sN 2 (c' := (15, [.ref 7, .int a1], [.int 0], (zS I J tg))) rfl ?_
    subst h
    exact Runs.rt rfl
  · rw [if_neg c1] at h
    refine Runs.brF (P := a1 = (-1)) (a := 5) (b := 9) (L := [.ref 7, .int a1]) (S := []) (z := (zS I J tg)) rfl c1 ?_
    refine Runs.sN 3 (c' := (14, [.ref 7, .int a1], [.int a1, .ref 11], (zS I J tg))) rfl ?_
    obtain ⟨c2, h⟩ := h
    refine Runs.to (c' := (15, [.ref 7, .int a1], [.int (I 11 ((a1).toNatClampNeg))], (zS I J tg))) (Runs.ild rfl (show (11 : Nat) < 114 by decide) rfl c2) ?_
    subst h
    exact Runs.rt rfl
-- X10_pick c77
theorem sg_113c77 {L d : Nat} {xs : Nat → Int32} (I : Nat → Nat → Int32) (J : Nat → Nat → Int64) (tg : Option Nat) (a1 : Int32) (a2 : Int32) (a3 : Int32) {r : Option Value × SS} (h : (Runs (GW L xs) d 113 (9, [.ref 7, .ref 77, .int a1, .int a2, .int a3, .int (-1), .int 0, .int 0, vU], [], (zS I J tg)) r)) : Runs (GW L xs) d 113 (0, [.ref 7, .ref 77, .int a1, .int a2, .int a3, vU, vU, vU, vU], [], (zS I J tg)) r := by
  refine Runs.sN 6 (c' := (9, [.ref 7, .ref 77, .int a1, .int a2, .int a3, .int (-1), .int 0, .int 0, vU], [], (zS I J tg))) rfl ?_
  exact h
theorem sg_113c77_9 {L d : Nat} {xs : Nat → Int32} (I : Nat → Nat → Int32) (J : Nat → Nat → Int64) (tg : Option Nat) (x2 : Int32) (x3 : Int32) (x4 : Int32) (x5 : Int32) (x6 : Int32) (x7 : Int32) {r : Option Value × SS} (h : ((if 12 ≤ x7 then ((if x6 ≤ (I 7 0) then (r = (some (.int x5), (zS I J tg))) else (r = (some (.int (-1)), (zS I J tg))))) else ((if ((x3 >>> (x7 &&& 31)) &&& 1) = 0 then (Runs (GW L xs) d 113 (9, [.ref 7, .ref 77, .int x2, .int x3, .int x4, .int x5, .int x6, .int (x7 + 1), vU], [], (zS I J tg)) r) else (¬ ((x2 + x7) < 0 ∨ 12 ≤ (x2 + x7).toNatClampNeg) ∧ (if ((x4 >>> (x7 &&& 31)) &&& 1) = 0 then ((if x5 = (-1) then (Runs (GW L xs) d 113 (9, [.ref 7, .ref 77, .int x2, .int x3, .int x4, .int x7, .int ((I 77 ((x2 + x7).toNatClampNeg)) - 0), .int (x7 + 1), vU], [], (zS I J tg)) r) else ((if x6 ≤ ((I 77 ((x2 + x7).toNatClampNeg)) - 0) then (Runs (GW L xs) d 113 (9, [.ref 7, .ref 77, .int x2, .int x3, .int x4, .int x5, .int x6, .int (x7 + 1), vU], [], (zS I J tg)) r) else (Runs (GW L xs) d 113 (9, [.ref 7, .ref 77, .int x2, .int x3, .int x4, .int x7, .int ((I 77 ((x2 + x7).toNatClampNeg)) - 0), .int (x7 + 1), vU], [], (zS I J tg)) r))))) else ((if x5 = (-1) then (Runs (GW L xs) d 113 (9, [.ref 7, .ref 77, .int x2, .int x3, .int x4, .int x7, .int ((I 77 ((x2 + x7).toNatClampNeg)) - (I 7 1)), .int (x7 + 1), vU], [], (zS I J tg)) r) else ((if x6 ≤ ((I 77 ((x2 + x7).toNatClampNeg)) - (I 7 1)) then (Runs (GW L xs) d 113 (9, [.ref 7, .ref 77, .int x2, .int x3, .int x4, .int x5, .int x6, .int (x7 + 1), vU], [], (zS I J tg)) r) else (Runs (GW L xs) d 113 (9, [.ref 7, .ref 77, .int x2, .int x3, .int x4, .int x7, .int ((I 77 ((x2 + x7).toNatClampNeg)) - (I 7 1)), .int (x7 + 1), vU], [], (zS I J tg)) r)))))))))))) : Runs (GW L xs) d 113 (9, [.ref 7, .ref 77, .int x2, .int x3, .int x4, .int x5, .int x6, .int x7, vU], [], (zS I J tg)) r := by
  refine Runs.sN 2 (c' := (13, [.ref 7, .ref 77, .int x2, .int x3, .int x4, .int x5, .int x6, .int x7, vU], [.int 12, .int x7], (zS I J tg))) rfl ?_
  by_cases c1 : 12 ≤ x7
  · rw [if_pos c1] at h
    refine Runs.brT (P := 12 ≤ x7) (a := 82) (b := 16) (L := [.ref 7, .ref 77, .int x2, .int x3, .int x4, .int x5, .int x6, .int x7, vU]) (S := []) (z := (zS I J tg)) rfl c1 ?_
    refine Runs.sN 3 (c' := (88, [.ref 7, .ref 77, .int x2, .int x3, .int x4, .int x5, .int x6, .int x7, vU], [.int (I 7 0), .int x6], (zS I J tg))) rfl ?_
    by_cases c2 : x6 ≤ (I 7 0)
    · rw [if_pos c2] at h
      refine Runs.brT (P := x6 ≤ (I 7 0)) (a := 95) (b := 91) (L := [.ref 7, .ref 77, .int x2, .int x3, .int x4, .int x5, .int x6, .int x7, vU]) (S := []) (z := (zS I J tg)) rfl c2 ?_
      refine Runs.sN 1 (c' := (97, [.ref 7, .ref 77, .int x2, .int x3, .int x4, .int x5, .int x6, .int x7, vU], [.int x5], (zS I J tg))) rfl ?_
      subst h
      exact Runs.rt rfl
    · rw [if_neg c2] at h
      refine Runs.brF (P := x6 ≤ (I 7 0)) (a := 95) (b := 91) (L := [.ref 7, .ref 77, .int x2, .int x3, .int x4, .int x5, .int x6, .int x7, vU]) (S := []) (z := (zS I J tg)) rfl c2 ?_
      refine Runs.sN 2 (c' := (97, [.ref 7, .ref 77, .int x2, .int x3, .int x4, .int x5, .int x6, .int x7, vU], [.int (-1)], (zS I J tg))) rfl ?_
      subst h
      exact Runs.rt rfl
  · rw [if_neg c1] at h
    refine Runs.brF (P := 12 ≤ x7) (a := 82) (b := 16) (L := [.ref 7, .ref 77, .int x2, .int x3, .int x4, .int x5, .int x6, .int x7, vU]) (S := []) (z := (zS I J tg)) rfl c1 ?_
    refine Runs.sN 5 (c' := (22, [.ref 7, .ref 77, .int x2, .int x3, .int x4, .int x5, .int x6, .int x7, vU], [.int ((x3 >>> (x7 &&& 31)) &&& 1)], (zS I J tg))) rfl ?_
    by_cases c3 : ((x3 >>> (x7 &&& 31)) &&& 1) = 0
    · rw [if_pos c3] at h
      refine Runs.brT (P := ((x3 >>> (x7 &&& 31)) &&& 1) = 0) (a := 25) (b := 28) (L := [.ref 7, .ref 77, .int x2, .int x3, .int x4, .int x5, .int x6, .int x7, vU]) (S := []) (z := (zS I J tg)) rfl c3 ?_
      refine Runs.sN 3 (c' := (9, [.ref 7, .ref 77, .int x2, .int x3, .int x4, .int x5, .int x6, .int (x7 + 1), vU], [], (zS I J tg))) rfl ?_
      exact h
    · rw [if_neg c3] at h
      refine Runs.brF (P := ((x3 >>> (x7 &&& 31)) &&& 1) = 0) (a := 25) (b := 28) (L := [.ref 7, .ref 77, .int x2, .int x3, .int x4, .int x5, .int x6, .int x7, vU]) (S := []) (z := (zS I J tg)) rfl c3 ?_
      refine Runs.sN 4 (c' := (33, [.ref 7, .ref 77, .int x2, .int x3, .int x4, .int x5, .int x6, .int x7, vU], [.int (x2 + x7), .ref 77], (zS I J tg))) rfl ?_
      obtain ⟨c4, h⟩ := h
      refine Runs.to (c' := (34, [.ref 7, .ref 77, .int x2, .int x3, .int x4, .int x5, .int x6, .int x7, vU], [.int (I 77 ((x2 + x7).toNatClampNeg))], (zS I J tg))) (Runs.ild rfl (show (77 : Nat) < 114 by decide) rfl c4) ?_
      refine Runs.sN 5 (c' := (41, [.ref 7, .ref 77, .int x2, .int x3, .int x4, .int x5, .int x6, .int x7, vU], [.int ((x4 >>> (x7 &&& 31)) &&& 1), .int (I 77 ((x2 + x7).toNatClampNeg))], (zS I J tg))) rfl ?_
      by_cases c5 : ((x4 >>> (x7 &&& 31)) &&& 1) = 0
      · rw [if_pos c5] at h
        refine Runs.brT (P := ((x4 >>> (x7 &&& 31)) &&& 1) = 0) (a := 44) (b := 48) (L := [.ref 7, .ref 77, .int x2, .int x3, .int x4, .int x5, .int x6, .int x7, vU]) (S := [.int (I 77 ((x2 + x7).toNatClampNeg))]) (z := (zS I J tg)) rfl c5 ?_
        refine Runs.sN 6 (c' := (58, [.ref 7, .ref 77, .int x2, .int x3, .int x4, .int x5, .int x6, .int x7, .int ((I 77 ((x2 + x7).toNatClampNeg)) - 0)], [.int (-1), .int x5], (zS I J tg))) rfl ?_
        by_cases c6 : x5 = (-1)
        · rw [if_pos c6] at h
          refine Runs.brT (P := x5 = (-1)) (a := 68) (b := 61) (L := [.ref 7, .ref 77, .int x2, .int x3, .int x4, .int x5, .int x6, .int x7, .int ((I 77 ((x2 + x7).toNatClampNeg)) - 0)]) (S := []) (z := (zS I J tg)) rfl c6 ?_
          refine Runs.sN 6 (c' := (9, [.ref 7, .ref 77, .int x2, .int x3, .int x4, .int x7, .int ((I 77 ((x2 + x7).toNatClampNeg)) - 0), .int (x7 + 1), .int ((I 77 ((x2 + x7).toNatClampNeg)) - 0)], [], (zS I J tg))) rfl ?_
          exact Runs.weak (L := [.ref 7, .ref 77, .int x2, .int x3, .int x4, .int x7, .int ((I 77 ((x2 + x7).toNatClampNeg)) - 0), .int (x7 + 1), vU]) (Lle.k (Lle.k (Lle.k (Lle.k (Lle.k (Lle.k (Lle.k (Lle.k (Lle.u Lle.n))))))))) h
        · rw [if_neg c6] at h
          refine Runs.brF (P := x5 = (-1)) (a := 68) (b := 61) (L := [.ref 7, .ref 77, .int x2, .int x3, .int x4, .int x5, .int x6, .int x7, .int ((I 77 ((x2 + x7).toNatClampNeg)) - 0)]) (S := []) (z := (zS I J tg)) rfl c6 ?_
          refine Runs.sN 2 (c' := (65, [.ref 7, .ref 77, .int x2, .int x3, .int x4, .int x5, .int x6, .int x7, .int ((I 77 ((x2 + x7).toNatClampNeg)) - 0)], [.int x6, .int ((I 77 ((x2 + x7).toNatClampNeg)) - 0)], (zS I J tg))) rfl ?_
          by_cases c7 : x6 ≤ ((I 77 ((x2 + x7).toNatClampNeg)) - 0)
          · rw [if_pos c7] at h
            refine Runs.brT (P := x6 ≤ ((I 77 ((x2 + x7).toNatClampNeg)) - 0)) (a := 76) (b := 68) (L := [.ref 7, .ref 77, .int x2, .int x3, .int x4, .int x5, .int x6, .int x7, .int ((I 77 ((x2 + x7).toNatClampNeg)) - 0)]) (S := []) (z := (zS I J tg)) rfl c7 ?_
            refine Runs.sN 2 (c' := (9, [.ref 7, .ref 77, .int x2, .int x3, .int x4, .int x5, .int x6, .int (x7 + 1), .int ((I 77 ((x2 + x7).toNatClampNeg)) - 0)], [], (zS I J tg))) rfl ?_
            exact Runs.weak (L := [.ref 7, .ref 77, .int x2, .int x3, .int x4, .int x5, .int x6, .int (x7 + 1), vU]) (Lle.k (Lle.k (Lle.k (Lle.k (Lle.k (Lle.k (Lle.k (Lle.k (Lle.u Lle.n))))))))) h
          · rw [if_neg c7] at h
            refine Runs.brF (P := x6 ≤ ((I 77 ((x2 + x7).toNatClampNeg)) - 0)) (a := 76) (b := 68) (L := [.ref 7, .ref 77, .int x2, .int x3, .int x4, .int x5, .int x6, .int x7, .int ((I 77 ((x2 + x7).toNatClampNeg)) - 0)]) (S := []) (z := (zS I J tg)) rfl c7 ?_
            refine Runs.sN 6 (c' := (9, [.ref 7, .ref 77, .int x2, .int x3, .int x4, .int x7, .int ((I 77 ((x2 + x7).toNatClampNeg)) - 0), .int (x7 + 1), .int ((I 77 ((x2 + x7).toNatClampNeg)) - 0)], [], (zS I J tg))) rfl ?_
            exact Runs.weak (L := [.ref 7, .ref 77, .int x2, .int x3, .int x4, .int x7, .int ((I 77 ((x2 + x7).toNatClampNeg)) - 0), .int (x7 + 1), vU]) (Lle.k (Lle.k (Lle.k (Lle.k (Lle.k (Lle.k (Lle.k (Lle.k (Lle.u Lle.n))))))))) h
      · rw [if_neg c5] at h
        refine Runs.brF (P := ((x4 >>> (x7 &&& 31)) &&& 1) = 0) (a := 44) (b := 48) (L := [.ref 7, .ref 77, .int x2, .int x3, .int x4, .int x5, .int x6, .int x7, vU]) (S := [.int (I 77 ((x2 + x7).toNatClampNeg))]) (z := (zS I J tg)) rfl c5 ?_
        refine Runs.sN 6 (c' := (58, [.ref 7, .ref 77, .int x2, .int x3, .int x4, .int x5, .int x6, .int x7, .int ((I 77 ((x2 + x7).toNatClampNeg)) - (I 7 1))], [.int (-1), .int x5], (zS I J tg))) rfl ?_
        by_cases c8 : x5 = (-1)
        · rw [if_pos c8] at h
          refine Runs.brT (P := x5 = (-1)) (a := 68) (b := 61) (L := [.ref 7, .ref 77, .int x2, .int x3, .int x4, .int x5, .int x6, .int x7, .int ((I 77 ((x2 + x7).toNatClampNeg)) - (I 7 1))]) (S := []) (z := (zS I J tg)) rfl c8 ?_
          refine Runs.sN 6 (c' := (9, [.ref 7, .ref 77, .int x2, .int x3, .int x4, .int x7, .int ((I 77 ((x2 + x7).toNatClampNeg)) - (I 7 1)), .int (x7 + 1), .int ((I 77 ((x2 + x7).toNatClampNeg)) - (I 7 1))], [], (zS I J tg))) rfl ?_
          exact Runs.weak (L := [.ref 7, .ref 77, .int x2, .int x3, .int x4, .int x7, .int ((I 77 ((x2 + x7).toNatClampNeg)) - (I 7 1)), .int (x7 + 1), vU]) (Lle.k (Lle.k (Lle.k (Lle.k (Lle.k (Lle.k (Lle.k (Lle.k (Lle.u Lle.n))))))))) h
        · rw [if_neg c8] at h
          refine Runs.brF (P := x5 = (-1)) (a := 68) (b := 61) (L := [.ref 7, .ref 77, .int x2, .int x3, .int x4, .int x5, .int x6, .int x7, .int ((I 77 ((x2 + x7).toNatClampNeg)) - (I 7 1))]) (S := []) (z := (zS I J tg)) rfl c8 ?_
          refine Runs.sN 2 (c' := (65, [.ref 7, .ref 77, .int x2, .int x3, .int x4, .int x5, .int x6, .int x7, .int ((I 77 ((x2 + x7).toNatClampNeg)) - (I 7 1))], [.int x6, .int ((I 77 ((x2 + x7).toNatClampNeg)) - (I 7 1))], (zS I J tg))) rfl ?_
          by_cases c9 : x6 ≤ ((I 77 ((x2 + x7).toNatClampNeg)) - (I 7 1))
          · rw [if_pos c9] at h
            refine Runs.brT (P := x6 ≤ ((I 77 ((x2 + x7).toNatClampNeg)) - (I 7 1))) (a := 76) (b := 68) (L := [.ref 7, .ref 77, .int x2, .int x3, .int x4, .int x5, .int x6, .int x7, .int ((I 77 ((x2 + x7).toNatClampNeg)) - (I 7 1))]) (S := []) (z := (zS I J tg)) rfl c9 ?_
            refine Runs.sN 2 (c' := (9, [.ref 7, .ref 77, .int x2, .int x3, .int x4, .int x5, .int x6, .int (x7 + 1), .int ((I 77 ((x2 + x7).toNatClampNeg)) - (I 7 1))], [], (zS I J tg))) rfl ?_
            exact Runs.weak (L := [.ref 7, .ref 77, .int x2, .int x3, .int x4, .int x5, .int x6, .int (x7 + 1), vU]) (Lle.k (Lle.k (Lle.k (Lle.k (Lle.k (Lle.k (Lle.k (Lle.k (Lle.u Lle.n))))))))) h
          · rw [if_neg c9] at h
            refine Runs.brF (P := x6 ≤ ((I 77 ((x2 + x7).toNatClampNeg)) - (I 7 1))) (a := 76) (b := 68) (L := [.ref 7, .ref 77, .int x2, .int x3, .int x4, .int x5, .int x6, .int x7, .int ((I 77 ((x2 + x7).toNatClampNeg)) - (I 7 1))]) (S := []) (z := (zS I J tg)) rfl c9 ?_
            refine Runs.sN 6 (c' := (9, [.ref 7, .ref 77, .int x2, .int x3, .int x4, .int x7, .int ((I 77 ((x2 + x7).toNatClampNeg)) - (I 7 1)), .int (x7 + 1), .int ((I 77 ((x2 + x7).toNatClampNeg)) - (I 7 1))], [], (zS I J tg))) rfl ?_
            exact Runs.weak (L := [.ref 7, .ref 77, .int x2, .int x3, .int x4, .int x7, .int ((I 77 ((x2 + x7).toNatClampNeg)) - (I 7 1)), .int (x7 + 1), vU]) (Lle.k (Lle.k (Lle.k (Lle.k (Lle.k (Lle.k (Lle.k (Lle.k (Lle.u Lle.n))))))))) h
-- X10_pick c87
theorem sg_113c87 {L d : Nat} {xs : Nat → Int32} (I : Nat → Nat → Int32) (J : Nat → Nat → Int64) (tg : Option Nat) (a1 : Int32) (a2 : Int32) (a3 : Int32) {r : Option Value × SS} (h : (Runs (GW L xs) d 113 (9, [.ref 7, .ref 87, .int a1, .int a2, .int a3, .int (-1), .int 0, .int 0, vU], [], (zS I J tg)) r)) : Runs (GW L xs) d 113 (0, [.ref 7, .ref 87, .int a1, .int a2, .int a3, vU, vU, vU, vU], [], (zS I J tg)) r := by
  refine Runs.sN 6 (c' := (9, [.ref 7, .ref 87, .int a1, .int a2, .int a3, .int (-1), .int 0, .int 0, vU], [], (zS I J tg))) rfl ?_
  exact h
theorem sg_113c87_9 {L d : Nat} {xs : Nat → Int32} (I : Nat → Nat → Int32) (J : Nat → Nat → Int64) (tg : Option Nat) (x2 : Int32) (x3 : Int32) (x4 : Int32) (x5 : Int32) (x6 : Int32) (x7 : Int32) {r : Option Value × SS} (h : ((if 12 ≤ x7 then ((if x6 ≤ (I 7 0) then (r = (some (.int x5), (zS I J tg))) else (r = (some (.int (-1)), (zS I J tg))))) else ((if ((x3 >>> (x7 &&& 31)) &&& 1) = 0 then (Runs (GW L xs) d 113 (9, [.ref 7, .ref 87, .int x2, .int x3, .int x4, .int x5, .int x6, .int (x7 + 1), vU], [], (zS I J tg)) r) else (¬ ((x2 + x7) < 0 ∨ 96 ≤ (x2 + x7).toNatClampNeg) ∧ (if ((x4 >>> (x7 &&& 31)) &&& 1) = 0 then ((if x5 = (-1) then (Runs (GW L xs) d 113 (9, [.ref 7, .ref 87, .int x2, .int x3, .int x4, .int x7, .int ((I 87 ((x2 + x7).toNatClampNeg)) - 0), .int (x7 + 1), vU], [], (zS I J tg)) r) else ((if x6 ≤ ((I 87 ((x2 + x7).toNatClampNeg)) - 0) then (Runs (GW L xs) d 113 (9, [.ref 7, .ref 87, .int x2, .int x3, .int x4, .int x5, .int x6, .int (x7 + 1), vU], [], (zS I J tg)) r) else (Runs (GW L xs) d 113 (9, [.ref 7, .ref 87, .int x2, .int x3, .int x4, .int x7, .int ((I 87 ((x2 + x7).toNatClampNeg)) - 0), .int (x7 + 1), vU], [], (zS I J tg)) r))))) else ((if x5 = (-1) then (Runs (GW L xs) d 113 (9, [.ref 7, .ref 87, .int x2, .int x3, .int x4, .int x7, .int ((I 87 ((x2 + x7).toNatClampNeg)) - (I 7 1)), .int (x7 + 1), vU], [], (zS I J tg)) r) else ((if x6 ≤ ((I 87 ((x2 + x7).toNatClampNeg)) - (I 7 1)) then (Runs (GW L xs) d 113 (9, [.ref 7, .ref 87, .int x2, .int x3, .int x4, .int x5, .int x6, .int (x7 + 1), vU], [], (zS I J tg)) r) else (Runs (GW L xs) d 113 (9, [.ref 7, .ref 87, .int x2, .int x3, .int x4, .int x7, .int ((I 87 ((x2 + x7).toNatClampNeg)) - (I 7 1)), .int (x7 + 1), vU], [], (zS I J tg)) r)))))))))))) : Runs (GW L xs) d 113 (9, [.ref 7, .ref 87, .int x2, .int x3, .int x4, .int x5, .int x6, .int x7, vU], [], (zS I J tg)) r := by
  refine Runs.sN 2 (c' := (13, [.ref 7, .ref 87, .int x2, .int x3, .int x4, .int x5, .int x6, .int x7, vU], [.int 12, .int x7], (zS I J tg))) rfl ?_
  by_cases c1 : 12 ≤ x7
  · rw [if_pos c1] at h
    refine Runs.brT (P := 12 ≤ x7) (a := 82) (b := 16) (L := [.ref 7, .ref 87, .int x2, .int x3, .int x4, .int x5, .int x6, .int x7, vU]) (S := []) (z := (zS I J tg)) rfl c1 ?_
    refine Runs.sN 3 (c' := (88, [.ref 7, .ref 87, .int x2, .int x3, .int x4, .int x5, .int x6, .int x7, vU], [.int (I 7 0), .int x6], (zS I J tg))) rfl ?_
    by_cases c2 : x6 ≤ (I 7 0)
    · rw [if_pos c2] at h
      refine Runs.brT (P := x6 ≤ (I 7 0)) (a := 95) (b := 91) (L := [.ref 7, .ref 87, .int x2, .int x3, .int x4, .int x5, .int x6, .int x7, vU]) (S := []) (z := (zS I J tg)) rfl c2 ?_
      refine Runs.sN 1 (c' := (97, [.ref 7, .ref 87, .int x2, .int x3, .int x4, .int x5, .int x6, .int x7, vU], [.int x5], (zS I J tg))) rfl ?_
      subst h
      exact Runs.rt rfl
    · rw [if_neg c2] at h
      refine Runs.brF (P := x6 ≤ (I 7 0)) (a := 95) (b := 91) (L := [.ref 7, .ref 87, .int x2, .int x3, .int x4, .int x5, .int x6, .int x7, vU]) (S := []) (z := (zS I J tg)) rfl c2 ?_
      refine Runs.sN 2 (c' := (97, [.ref 7, .ref 87, .int x2, .int x3, .int x4, .int x5, .int x6, .int x7, vU], [.int (-1)], (zS I J tg))) rfl ?_
      subst h
      exact Runs.rt rfl
  · rw [if_neg c1] at h
    refine Runs.brF (P := 12 ≤ x7) (a := 82) (b := 16) (L := [.ref 7, .ref 87, .int x2, .int x3, .int x4, .int x5, .int x6, .int x7, vU]) (S := []) (z := (zS I J tg)) rfl c1 ?_
    refine Runs.sN 5 (c' := (22, [.ref 7, .ref 87, .int x2, .int x3, .int x4, .int x5, .int x6, .int x7, vU], [.int ((x3 >>> (x7 &&& 31)) &&& 1)], (zS I J tg))) rfl ?_
    by_cases c3 : ((x3 >>> (x7 &&& 31)) &&& 1) = 0
    · rw [if_pos c3] at h
      refine Runs.brT (P := ((x3 >>> (x7 &&& 31)) &&& 1) = 0) (a := 25) (b := 28) (L := [.ref 7, .ref 87, .int x2, .int x3, .int x4, .int x5, .int x6, .int x7, vU]) (S := []) (z := (zS I J tg)) rfl c3 ?_
      refine Runs.sN 3 (c' := (9, [.ref 7, .ref 87, .int x2, .int x3, .int x4, .int x5, .int x6, .int (x7 + 1), vU], [], (zS I J tg))) rfl ?_
      exact h
    · rw [if_neg c3] at h
      refine Runs.brF (P := ((x3 >>> (x7 &&& 31)) &&& 1) = 0) (a := 25) (b := 28) (L := [.ref 7, .ref 87, .int x2, .int x3, .int x4, .int x5, .int x6, .int x7, vU]) (S := []) (z := (zS I J tg)) rfl c3 ?_
      refine Runs.sN 4 (c' := (33, [.ref 7, .ref 87, .int x2, .int x3, .int x4, .int x5, .int x6, .int x7, vU], [.int (x2 + x7), .ref 87], (zS I J tg))) rfl ?_
      obtain ⟨c4, h⟩ := h
      refine Runs.to (c' := (34, [.ref 7, .ref 87, .int x2, .int x3, .int x4, .int x5, .int x6, .int x7, vU], [.int (I 87 ((x2 + x7).toNatClampNeg))], (zS I J tg))) (Runs.ild rfl (show (87 : Nat) < 114 by decide) rfl c4) ?_
      refine Runs.sN 5 (c' := (41, [.ref 7, .ref 87, .int x2, .int x3, .int x4, .int x5, .int x6, .int x7, vU], [.int ((x4 >>> (x7 &&& 31)) &&& 1), .int (I 87 ((x2 + x7).toNatClampNeg))], (zS I J tg))) rfl ?_
      by_cases c5 : ((x4 >>> (x7 &&& 31)) &&& 1) = 0
      · rw [if_pos c5] at h
        refine Runs.brT (P := ((x4 >>> (x7 &&& 31)) &&& 1) = 0) (a := 44) (b := 48) (L := [.ref 7, .ref 87, .int x2, .int x3, .int x4, .int x5, .int x6, .int x7, vU]) (S := [.int (I 87 ((x2 + x7).toNatClampNeg))]) (z := (zS I J tg)) rfl c5 ?_
        refine Runs.sN 6 (c' := (58, [.ref 7, .ref 87, .int x2, .int x3, .int x4, .int x5, .int x6, .int x7, .int ((I 87 ((x2 + x7).toNatClampNeg)) - 0)], [.int (-1), .int x5], (zS I J tg))) rfl ?_
        by_cases c6 : x5 = (-1)
        · rw [if_pos c6] at h
          refine Runs.brT (P := x5 = (-1)) (a := 68) (b := 61) (L := [.ref 7, .ref 87, .int x2, .int x3, .int x4, .int x5, .int x6, .int x7, .int ((I 87 ((x2 + x7).toNatClampNeg)) - 0)]) (S := []) (z := (zS I J tg)) rfl c6 ?_
          refine Runs.sN 6 (c' := (9, [.ref 7, .ref 87, .int x2, .int x3, .int x4, .int x7, .int ((I 87 ((x2 + x7).toNatClampNeg)) - 0), .int (x7 + 1), .int ((I 87 ((x2 + x7).toNatClampNeg)) - 0)], [], (zS I J tg))) rfl ?_
          exact Runs.weak (L := [.ref 7, .ref 87, .int x2, .int x3, .int x4, .int x7, .int ((I 87 ((x2 + x7).toNatClampNeg)) - 0), .int (x7 + 1), vU]) (Lle.k (Lle.k (Lle.k (Lle.k (Lle.k (Lle.k (Lle.k (Lle.k (Lle.u Lle.n))))))))) h
        · rw [if_neg c6] at h
          refine Runs.brF (P := x5 = (-1)) (a := 68) (b := 61) (L := [.ref 7, .ref 87, .int x2, .int x3, .int x4, .int x5, .int x6, .int x7, .int ((I 87 ((x2 + x7).toNatClampNeg)) - 0)]) (S := []) (z := (zS I J tg)) rfl c6 ?_
          refine Runs.sN 2 (c' := (65, [.ref 7, .ref 87, .int x2, .int x3, .int x4, .int x5, .int x6, .int x7, .int ((I 87 ((x2 + x7).toNatClampNeg)) - 0)], [.int x6, .int ((I 87 ((x2 + x7).toNatClampNeg)) - 0)], (zS I J tg))) rfl ?_
          by_cases c7 : x6 ≤ ((I 87 ((x2 + x7).toNatClampNeg)) - 0)
          · rw [if_pos c7] at h
            refine Runs.brT (P := x6 ≤ ((I 87 ((x2 + x7).toNatClampNeg)) - 0)) (a := 76) (b := 68) (L := [.ref 7, .ref 87, .int x2, .int x3, .int x4, .int x5, .int x6, .int x7, .int ((I 87 ((x2 + x7).toNatClampNeg)) - 0)]) (S := []) (z := (zS I J tg)) rfl c7 ?_
            refine Runs.sN 2 (c' := (9, [.ref 7, .ref 87, .int x2, .int x3, .int x4, .int x5, .int x6, .int (x7 + 1), .int ((I 87 ((x2 + x7).toNatClampNeg)) - 0)], [], (zS I J tg))) rfl ?_
            exact Runs.weak (L := [.ref 7, .ref 87, .int x2, .int x3, .int x4, .int x5, .int x6, .int (x7 + 1), vU]) (Lle.k (Lle.k (Lle.k (Lle.k (Lle.k (Lle.k (Lle.k (Lle.k (Lle.u Lle.n))))))))) h
          · rw [if_neg c7] at h
            refine Runs.brF (P := x6 ≤ ((I 87 ((x2 + x7).toNatClampNeg)) - 0)) (a := 76) (b := 68) (L := [.ref 7, .ref 87, .int x2, .int x3, .int x4, .int x5, .int x6, .int x7, .int ((I 87 ((x2 + x7).toNatClampNeg)) - 0)]) (S := []) (z := (zS I J tg)) rfl c7 ?_
            refine Runs.sN 6 (c' := (9, [.ref 7, .ref 87, .int x2, .int x3, .int x4, .int x7, .int ((I 87 ((x2 + x7).toNatClampNeg)) - 0), .int (x7 + 1), .int ((I 87 ((x2 + x7).toNatClampNeg)) - 0)], [], (zS I J tg))) rfl ?_
            exact Runs.weak (L := [.ref 7, .ref 87, .int x2, .int x3, .int x4, .int x7, .int ((I 87 ((x2 + x7).toNatClampNeg)) - 0), .int (x7 + 1), vU]) (Lle.k (Lle.k (Lle.k (Lle.k (Lle.k (Lle.k (Lle.k (Lle.k (Lle.u Lle.n))))))))) h
      · rw [if_neg c5] at h
        refine Runs.brF (P := ((x4 >>> (x7 &&& 31)) &&& 1) = 0) (a := 44) (b := 48) (L := [.ref 7, .ref 87, .int x2, .int x3, .int x4, .int x5, .int x6, .int x7, vU]) (S := [.int (I 87 ((x2 + x7).toNatClampNeg))]) (z := (zS I J tg)) rfl c5 ?_
        refine Runs.sN 6 (c' := (58, [.ref 7, .ref 87, .int x2, .int x3, .int x4, .int x5, .int x6, .int x7, .int ((I 87 ((x2 + x7).toNatClampNeg)) - (I 7 1))], [.int (-1), .int x5], (zS I J tg))) rfl ?_
        by_cases c8 : x5 = (-1)
        · rw [if_pos c8] at h
          refine Runs.brT (P := x5 = (-1)) (a := 68) (b := 61) (L := [.ref 7, .ref 87, .int x2, .int x3, .int x4, .int x5, .int x6, .int x7, .int ((I 87 ((x2 + x7).toNatClampNeg)) - (I 7 1))]) (S := []) (z := (zS I J tg)) rfl c8 ?_
          refine Runs.sN 6 (c' := (9, [.ref 7, .ref 87, .int x2, .int x3, .int x4, .int x7, .int ((I 87 ((x2 + x7).toNatClampNeg)) - (I 7 1)), .int (x7 + 1), .int ((I 87 ((x2 + x7).toNatClampNeg)) - (I 7 1))], [], (zS I J tg))) rfl ?_
          exact Runs.weak (L := [.ref 7, .ref 87, .int x2, .int x3, .int x4, .int x7, .int ((I 87 ((x2 + x7).toNatClampNeg)) - (I 7 1)), .int (x7 + 1), vU]) (Lle.k (Lle.k (Lle.k (Lle.k (Lle.k (Lle.k (Lle.k (Lle.k (Lle.u Lle.n))))))))) h
        · rw [if_neg c8] at h
          refine Runs.brF (P := x5 = (-1)) (a := 68) (b := 61) (L := [.ref 7, .ref 87, .int x2, .int x3, .int x4, .int x5, .int x6, .int x7, .int ((I 87 ((x2 + x7).toNatClampNeg)) - (I 7 1))]) (S := []) (z := (zS I J tg)) rfl c8 ?_
          refine Runs.sN 2 (c' := (65, [.ref 7, .ref 87, .int x2, .int x3, .int x4, .int x5, .int x6, .int x7, .int ((I 87 ((x2 + x7).toNatClampNeg)) - (I 7 1))], [.int x6, .int ((I 87 ((x2 + x7).toNatClampNeg)) - (I 7 1))], (zS I J tg))) rfl ?_
          by_cases c9 : x6 ≤ ((I 87 ((x2 + x7).toNatClampNeg)) - (I 7 1))
          · rw [if_pos c9] at h
            refine Runs.brT (P := x6 ≤ ((I 87 ((x2 + x7).toNatClampNeg)) - (I 7 1))) (a := 76) (b := 68) (L := [.ref 7, .ref 87, .int x2, .int x3, .int x4, .int x5, .int x6, .int x7, .int ((I 87 ((x2 + x7).toNatClampNeg)) - (I 7 1))]) (S := []) (z := (zS I J tg)) rfl c9 ?_
            refine Runs.sN 2 (c' := (9, [.ref 7, .ref 87, .int x2, .int x3, .int x4, .int x5, .int x6, .int (x7 + 1), .int ((I 87 ((x2 + x7).toNatClampNeg)) - (I 7 1))], [], (zS I J tg))) rfl ?_
            exact Runs.weak (L := [.ref 7, .ref 87, .int x2, .int x3, .int x4, .int x5, .int x6, .int (x7 + 1), vU]) (Lle.k (Lle.k (Lle.k (Lle.k (Lle.k (Lle.k (Lle.k (Lle.k (Lle.u Lle.n))))))))) h
          · rw [if_neg c9] at h
            refine Runs.brF (P := x6 ≤ ((I 87 ((x2 + x7).toNatClampNeg)) - (I 7 1))) (a := 76) (b := 68) (L := [.ref 7, .ref 87, .int x2, .int x3, .int x4, .int x5, .int x6, .int x7, .int ((I 87 ((x2 + x7).toNatClampNeg)) - (I 7 1))]) (S := []) (z := (zS I J tg)) rfl c9 ?_
            refine Runs.sN 6 (c' := (9, [.ref 7, .ref 87, .int x2, .int x3, .int x4, .int x7, .int ((I 87 ((x2 + x7).toNatClampNeg)) - (I 7 1)), .int (x7 + 1), .int ((I 87 ((x2 + x7).toNatClampNeg)) - (I 7 1))], [], (zS I J tg))) rfl ?_
            exact Runs.weak (L := [.ref 7, .ref 87, .int x2, .int x3, .int x4, .int x7, .int ((I 87 ((x2 + x7).toNatClampNeg)) - (I 7 1)), .int (x7 + 1), vU]) (Lle.k (Lle.k (Lle.k (Lle.k (Lle.k (Lle.k (Lle.k (Lle.k (Lle.u Lle.n))))))))) h
-- X10_copyFrom i
theorem sg_114i {L d : Nat} {xs : Nat → Int32} (I : Nat → Nat → Int32) (J : Nat → Nat → Int64) (tg : Option Nat) {r : Option Value × SS} (h : (∃ (I11 : Nat → Nat → Int32), Runs (GW L xs) d 174 (0, [.ref 8, .ref 30], [], (zS (up2 (up2 (up2 (up2 (up2 (up2 I 29 0 (I 7 0)) 29 1 (I 7 1)) 29 2 (I 7 2)) 29 3 (I 7 3)) 29 4 (I 7 4)) 29 5 (I 7 5)) J tg)) (none, (zS I11 J tg)) ∧ ∃ (I12 : Nat → Nat → Int32), Runs (GW L xs) d 174 (0, [.ref 9, .ref 31], [], (zS I11 J tg)) (none, (zS I12 J tg)) ∧ ∃ (I13 : Nat → Nat → Int32), Runs (GW L xs) d 174 (0, [.ref 10, .ref 32], [], (zS I12 J tg)) (none, (zS I13 J tg)) ∧ ∃ (I14 : Nat → Nat → Int32), Runs (GW L xs) d 174 (0, [.ref 11, .ref 33], [], (zS I13 J tg)) (none, (zS I14 J tg)) ∧ ∃ (I15 : Nat → Nat → Int32), Runs (GW L xs) d 174 (0, [.ref 12, .ref 34], [], (zS I14 J tg)) (none, (zS I15 J tg)) ∧ ∃ (I16 : Nat → Nat → Int32), Runs (GW L xs) d 174 (0, [.ref 13, .ref 35], [], (zS I15 J tg)) (none, (zS I16 J tg)) ∧ ∃ (I17 : Nat → Nat → Int32), Runs (GW L xs) d 174 (0, [.ref 14, .ref 36], [], (zS I16 J tg)) (none, (zS I17 J tg)) ∧ ∃ (I18 : Nat → Nat → Int32), Runs (GW L xs) d 174 (0, [.ref 15, .ref 37], [], (zS I17 J tg)) (none, (zS I18 J tg)) ∧ ∃ (I19 : Nat → Nat → Int32), Runs (GW L xs) d 174 (0, [.ref 16, .ref 38], [], (zS I18 J tg)) (none, (zS I19 J tg)) ∧ ∃ (I20 : Nat → Nat → Int32), Runs (GW L xs) d 174 (0, [.ref 17, .ref 39], [], (zS I19 J tg)) (none, (zS I20 J tg)) ∧ r = (none, (zS I20 J tg)))) : Runs (GW L xs) (d + 1) 114 (0, [.ref 29, .ref 7], [], (zS I J tg)) r := by
  refine Runs.sN 28 (c' := (56, [.ref 29, .ref 7], [.ref 30, .ref 8], (zS (up2 (up2 (up2 (up2 (up2 (up2 I 29 0 (I 7 0)) 29 1 (I 7 1)) 29 2 (I 7 2)) 29 3 (I 7 3)) 29 4 (I 7 4)) 29 5 (I 7 5)) J tg))) rfl ?_
  obtain ⟨I11, c21, h⟩ := h
  refine Runs.cl (cm := 174) (as := [.ref 8, .ref 30]) (rest := []) (r1 := (none, (zS I11 J tg))) rfl (Nat.le_of_ble_eq_true rfl) c21 ?_
  refine Runs.as (c' := (59, [.ref 29, .ref 7], [], (zS I11 J tg))) rfl ?_
  refine Runs.sN 4 (c' := (67, [.ref 29, .ref 7], [.ref 31, .ref 9], (zS I11 J tg))) rfl ?_
  obtain ⟨I12, c22, h⟩ := h
  refine Runs.cl (cm := 174) (as := [.ref 9, .ref 31]) (rest := []) (r1 := (none, (zS I12 J tg))) rfl (Nat.le_of_ble_eq_true rfl) c22 ?_
  refine Runs.as (c' := (70, [.ref 29, .ref 7], [], (zS I12 J tg))) rfl ?_
  refine Runs.sN 4 (c' := (78, [.ref 29, .ref 7], [.ref 32, .ref 10], (zS I12 J tg))) rfl ?_
  obtain ⟨I13, c23, h⟩ := h
  refine Runs.cl (cm := 174) (as := [.ref 10, .ref 32]) (rest := []) (r1 := (none, (zS I13 J tg))) rfl (Nat.le_of_ble_eq_true rfl) c23 ?_
  refine Runs.as (c' := (81, [.ref 29, .ref 7], [], (zS I13 J tg))) rfl ?_
  refine Runs.sN 4 (c' := (89, [.ref 29, .ref 7], [.ref 33, .ref 11], (zS I13 J tg))) rfl ?_
  obtain ⟨I14, c24, h⟩ := h
  refine Runs.cl (cm := 174) (as := [.ref 11, .ref 33]) (rest := []) (r1 := (none, (zS I14 J tg))) rfl (Nat.le_of_ble_eq_true rfl) c24 ?_
  refine Runs.as (c' := (92, [.ref 29, .ref 7], [], (zS I14 J tg))) rfl ?_
  refine Runs.sN 4 (c' := (100, [.ref 29, .ref 7], [.ref 34, .ref 12], (zS I14 J tg))) rfl ?_
  obtain ⟨I15, c25, h⟩ := h
  refine Runs.cl (cm := 174) (as := [.ref 12, .ref 34]) (rest := []) (r1 := (none, (zS I15 J tg))) rfl (Nat.le_of_ble_eq_true rfl) c25 ?_
  refine Runs.as (c' := (103, [.ref 29, .ref 7], [], (zS I15 J tg))) rfl ?_
  refine Runs.sN 4 (c' := (111, [.ref 29, .ref 7], [.ref 35, .ref 13], (zS I15 J tg))) rfl ?_
  obtain ⟨I16, c26, h⟩ := h
  refine Runs.cl (cm := 174) (as := [.ref 13, .ref 35]) (rest := []) (r1 := (none, (zS I16 J tg))) rfl (Nat.le_of_ble_eq_true rfl) c26 ?_
  refine Runs.as (c' := (114, [.ref 29, .ref 7], [], (zS I16 J tg))) rfl ?_
  refine Runs.sN 4 (c' := (122, [.ref 29, .ref 7], [.ref 36, .ref 14], (zS I16 J tg))) rfl ?_
  obtain ⟨I17, c27, h⟩ := h
  refine Runs.cl (cm := 174) (as := [.ref 14, .ref 36]) (rest := []) (r1 := (none, (zS I17 J tg))) rfl (Nat.le_of_ble_eq_true rfl) c27 ?_
  refine Runs.as (c' := (125, [.ref 29, .ref 7], [], (zS I17 J tg))) rfl ?_
  refine Runs.sN 4 (c' := (133, [.ref 29, .ref 7], [.ref 37, .ref 15], (zS I17 J tg))) rfl ?_
  obtain ⟨I18, c28, h⟩ := h
  refine Runs.cl (cm := 174) (as := [.ref 15, .ref 37]) (rest := []) (r1 := (none, (zS I18 J tg))) rfl (Nat.le_of_ble_eq_true rfl) c28 ?_
  refine Runs.as (c' := (136, [.ref 29, .ref 7], [], (zS I18 J tg))) rfl ?_
  refine Runs.sN 4 (c' := (144, [.ref 29, .ref 7], [.ref 38, .ref 16], (zS I18 J tg))) rfl ?_
  obtain ⟨I19, c29, h⟩ := h
  refine Runs.cl (cm := 174) (as := [.ref 16, .ref 38]) (rest := []) (r1 := (none, (zS I19 J tg))) rfl (Nat.le_of_ble_eq_true rfl) c29 ?_
  refine Runs.as (c' := (147, [.ref 29, .ref 7], [], (zS I19 J tg))) rfl ?_
  refine Runs.sN 4 (c' := (155, [.ref 29, .ref 7], [.ref 39, .ref 17], (zS I19 J tg))) rfl ?_
  obtain ⟨I20, c30, h⟩ := h
  refine Runs.cl (cm := 174) (as := [.ref 17, .ref 39]) (rest := []) (r1 := (none, (zS I20 J tg))) rfl (Nat.le_of_ble_eq_true rfl) c30 ?_
  refine Runs.as (c' := (158, [.ref 29, .ref 7], [], (zS I20 J tg))) rfl ?_
  subst h
  exact Runs.rt rfl
-- X10_copyFrom b
theorem sg_114b {L d : Nat} {xs : Nat → Int32} (I : Nat → Nat → Int32) (J : Nat → Nat → Int64) (tg : Option Nat) {r : Option Value × SS} (h : (∃ (I11 : Nat → Nat → Int32), Runs (GW L xs) d 174 (0, [.ref 30, .ref 8], [], (zS (up2 (up2 (up2 (up2 (up2 (up2 I 7 0 (I 29 0)) 7 1 (I 29 1)) 7 2 (I 29 2)) 7 3 (I 29 3)) 7 4 (I 29 4)) 7 5 (I 29 5)) J tg)) (none, (zS I11 J tg)) ∧ ∃ (I12 : Nat → Nat → Int32), Runs (GW L xs) d 174 (0, [.ref 31, .ref 9], [], (zS I11 J tg)) (none, (zS I12 J tg)) ∧ ∃ (I13 : Nat → Nat → Int32), Runs (GW L xs) d 174 (0, [.ref 32, .ref 10], [], (zS I12 J tg)) (none, (zS I13 J tg)) ∧ ∃ (I14 : Nat → Nat → Int32), Runs (GW L xs) d 174 (0, [.ref 33, .ref 11], [], (zS I13 J tg)) (none, (zS I14 J tg)) ∧ ∃ (I15 : Nat → Nat → Int32), Runs (GW L xs) d 174 (0, [.ref 34, .ref 12], [], (zS I14 J tg)) (none, (zS I15 J tg)) ∧ ∃ (I16 : Nat → Nat → Int32), Runs (GW L xs) d 174 (0, [.ref 35, .ref 13], [], (zS I15 J tg)) (none, (zS I16 J tg)) ∧ ∃ (I17 : Nat → Nat → Int32), Runs (GW L xs) d 174 (0, [.ref 36, .ref 14], [], (zS I16 J tg)) (none, (zS I17 J tg)) ∧ ∃ (I18 : Nat → Nat → Int32), Runs (GW L xs) d 174 (0, [.ref 37, .ref 15], [], (zS I17 J tg)) (none, (zS I18 J tg)) ∧ ∃ (I19 : Nat → Nat → Int32), Runs (GW L xs) d 174 (0, [.ref 38, .ref 16], [], (zS I18 J tg)) (none, (zS I19 J tg)) ∧ ∃ (I20 : Nat → Nat → Int32), Runs (GW L xs) d 174 (0, [.ref 39, .ref 17], [], (zS I19 J tg)) (none, (zS I20 J tg)) ∧ r = (none, (zS I20 J tg)))) : Runs (GW L xs) (d + 1) 114 (0, [.ref 7, .ref 29], [], (zS I J tg)) r := by
  refine Runs.sN 28 (c' := (56, [.ref 7, .ref 29], [.ref 8, .ref 30], (zS (up2 (up2 (up2 (up2 (up2 (up2 I 7 0 (I 29 0)) 7 1 (I 29 1)) 7 2 (I 29 2)) 7 3 (I 29 3)) 7 4 (I 29 4)) 7 5 (I 29 5)) J tg))) rfl ?_
  obtain ⟨I11, c21, h⟩ := h
  refine Runs.cl (cm := 174) (as := [.ref 30, .ref 8]) (rest := []) (r1 := (none, (zS I11 J tg))) rfl (Nat.le_of_ble_eq_true rfl) c21 ?_
  refine Runs.as (c' := (59, [.ref 7, .ref 29], [], (zS I11 J tg))) rfl ?_
  refine Runs.sN 4 (c' := (67, [.ref 7, .ref 29], [.ref 9, .ref 31], (zS I11 J tg))) rfl ?_
  obtain ⟨I12, c22, h⟩ := h
  refine Runs.cl (cm := 174) (as := [.ref 31, .ref 9]) (rest := []) (r1 := (none, (zS I12 J tg))) rfl (Nat.le_of_ble_eq_true rfl) c22 ?_
  refine Runs.as (c' := (70, [.ref 7, .ref 29], [], (zS I12 J tg))) rfl ?_
  refine Runs.sN 4 (c' := (78, [.ref 7, .ref 29], [.ref 10, .ref 32], (zS I12 J tg))) rfl ?_
  obtain ⟨I13, c23, h⟩ := h
  refine Runs.cl (cm := 174) (as := [.ref 32, .ref 10]) (rest := []) (r1 := (none, (zS I13 J tg))) rfl (Nat.le_of_ble_eq_true rfl) c23 ?_
  refine Runs.as (c' := (81, [.ref 7, .ref 29], [], (zS I13 J tg))) rfl ?_
  refine Runs.sN 4 (c' := (89, [.ref 7, .ref 29], [.ref 11, .ref 33], (zS I13 J tg))) rfl ?_
  obtain ⟨I14, c24, h⟩ := h
  refine Runs.cl (cm := 174) (as := [.ref 33, .ref 11]) (rest := []) (r1 := (none, (zS I14 J tg))) rfl (Nat.le_of_ble_eq_true rfl) c24 ?_
  refine Runs.as (c' := (92, [.ref 7, .ref 29], [], (zS I14 J tg))) rfl ?_
  refine Runs.sN 4 (c' := (100, [.ref 7, .ref 29], [.ref 12, .ref 34], (zS I14 J tg))) rfl ?_
  obtain ⟨I15, c25, h⟩ := h
  refine Runs.cl (cm := 174) (as := [.ref 34, .ref 12]) (rest := []) (r1 := (none, (zS I15 J tg))) rfl (Nat.le_of_ble_eq_true rfl) c25 ?_
  refine Runs.as (c' := (103, [.ref 7, .ref 29], [], (zS I15 J tg))) rfl ?_
  refine Runs.sN 4 (c' := (111, [.ref 7, .ref 29], [.ref 13, .ref 35], (zS I15 J tg))) rfl ?_
  obtain ⟨I16, c26, h⟩ := h
  refine Runs.cl (cm := 174) (as := [.ref 35, .ref 13]) (rest := []) (r1 := (none, (zS I16 J tg))) rfl (Nat.le_of_ble_eq_true rfl) c26 ?_
  refine Runs.as (c' := (114, [.ref 7, .ref 29], [], (zS I16 J tg))) rfl ?_
  refine Runs.sN 4 (c' := (122, [.ref 7, .ref 29], [.ref 14, .ref 36], (zS I16 J tg))) rfl ?_
  obtain ⟨I17, c27, h⟩ := h
  refine Runs.cl (cm := 174) (as := [.ref 36, .ref 14]) (rest := []) (r1 := (none, (zS I17 J tg))) rfl (Nat.le_of_ble_eq_true rfl) c27 ?_
  refine Runs.as (c' := (125, [.ref 7, .ref 29], [], (zS I17 J tg))) rfl ?_
  refine Runs.sN 4 (c' := (133, [.ref 7, .ref 29], [.ref 15, .ref 37], (zS I17 J tg))) rfl ?_
  obtain ⟨I18, c28, h⟩ := h
  refine Runs.cl (cm := 174) (as := [.ref 37, .ref 15]) (rest := []) (r1 := (none, (zS I18 J tg))) rfl (Nat.le_of_ble_eq_true rfl) c28 ?_
  refine Runs.as (c' := (136, [.ref 7, .ref 29], [], (zS I18 J tg))) rfl ?_
  refine Runs.sN 4 (c' := (144, [.ref 7, .ref 29], [.ref 16, .ref 38], (zS I18 J tg))) rfl ?_
  obtain ⟨I19, c29, h⟩ := h
  refine Runs.cl (cm := 174) (as := [.ref 38, .ref 16]) (rest := []) (r1 := (none, (zS I19 J tg))) rfl (Nat.le_of_ble_eq_true rfl) c29 ?_
  refine Runs.as (c' := (147, [.ref 7, .ref 29], [], (zS I19 J tg))) rfl ?_
  refine Runs.sN 4 (c' := (155, [.ref 7, .ref 29], [.ref 17, .ref 39], (zS I19 J tg))) rfl ?_
  obtain ⟨I20, c30, h⟩ := h
  refine Runs.cl (cm := 174) (as := [.ref 39, .ref 17]) (rest := []) (r1 := (none, (zS I20 J tg))) rfl (Nat.le_of_ble_eq_true rfl) c30 ?_
  refine Runs.as (c' := (158, [.ref 7, .ref 29], [], (zS I20 J tg))) rfl ?_
  subst h
  exact Runs.rt rfl
