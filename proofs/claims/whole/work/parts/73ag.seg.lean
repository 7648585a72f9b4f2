-- X8_release t55
theorem sg_88t55 {L d : Nat} {xs : Nat → Int32} (I : Nat → Nat → Int32) (J : Nat → Nat → Int64) (tg : Option Nat) (a1 : Int32) {r : Option Value × SS} (h : ((if (I 67 9) ≤ 0 then (r = (none, (zS I J (some 55)))) else (¬ (((I 67 9) - 1) < 0 ∨ 300 ≤ ((I 67 9) - 1).toNatClampNeg) ∧ ∃ (v22 : Int32) (I23 : Nat → Nat → Int32) (J24 : Nat → Nat → Int64) (tg25 : Option Nat), Runs (GW L xs) d 89 (0, [.int (I 69 (((I 67 9) - 1).toNatClampNeg))], [], (zS I J (some 55))) ((some (.int v22)), (zS I23 J24 tg25)) ∧ (if v22 < a1 then (r = (none, (zS I23 J24 tg25))) else (¬ (((I23 67 9) - 1) < 0 ∨ 300 ≤ ((I23 67 9) - 1).toNatClampNeg) ∧ ∃ (I26 : Nat → Nat → Int32) (J27 : Nat → Nat → Int64) (tg28 : Option Nat), Runs (GW L xs) d 25 (0, [.ref 55, .int (20000 + (I23 69 (((I23 67 9) - 1).toNatClampNeg)))], [], (zS I23 J24 tg25)) (none, (zS I26 J27 tg28)) ∧ Runs (GW L xs) (d + 1) 88 (0, [.ref 67, .int a1], [], (zS (up2 I26 67 9 ((I26 67 9) - 1)) J27 tg28)) r)))))) : Runs (GW L xs) (d + 1) 88 (0, [.ref 67, .int a1], [], (zS I J (some 55))) r := by
  refine Runs.sN 2 (c' := (4, [.ref 67, .int a1], [.int (I 67 9)], (zS I J (some 55)))) rfl ?_
  by_cases c29 : (I 67 9) ≤ 0
  · rw [if_pos c29] at h
    refine Runs.brT (P := (I 67 9) ≤ 0) (a := 60) (b := 7) (L := [.ref 67, .int a1]) (S := []) (z := (zS I J (some 55))) rfl c29 ?_
    subst h
    exact Runs.rt rfl
  · rw [if_neg c29] at h
    refine Runs.brF (P := (I 67 9) ≤ 0) (a := 60) (b := 7) (L := [.ref 67, .int a1]) (S := []) (z := (zS I J (some 55))) rfl c29 ?_
    refine Runs.sN 6 (c' := (17, [.ref 67, .int a1], [.int ((I 67 9) - 1), .ref 69], (zS I J (some 55)))) rfl ?_
    obtain ⟨c30, h⟩ := h
    refine Runs.to (c' := (18, [.ref 67, .int a1], [.int (I 69 (((I 67 9) - 1).toNatClampNeg))], (zS I J (some 55)))) (Runs.ild rfl (show (69 : Nat) < 114 by decide) rfl c30) ?_
    obtain ⟨v22, I23, J24, tg25, c31, h⟩ := h
    refine Runs.cl (cm := 89) (as := [.int (I 69 (((I 67 9) - 1).toNatClampNeg))]) (rest := []) (r1 := ((some (.int v22)), (zS I23 J24 tg25))) rfl (Nat.le_of_ble_eq_true rfl) c31 ?_
    refine Runs.as (c' := (21, [.ref 67, .int a1], [.int v22], (zS I23 J24 tg25))) rfl ?_
    refine Runs.sN 1 (c' := (22, [.ref 67, .int a1], [.int a1, .int v22], (zS I23 J24 tg25))) rfl ?_
    by_cases c32 : v22 < a1
    · rw [if_pos c32] at h
      refine Runs.brT (P := v22 < a1) (a := 60) (b := 25) (L := [.ref 67, .int a1]) (S := []) (z := (zS I23 J24 tg25)) rfl c32 ?_
      subst h
      exact Runs.rt rfl
    · rw [if_neg c32] at h
      refine Runs.brF (P := v22 < a1) (a := 60) (b := 25) (L := [.ref 67, .int a1]) (S := []) (z := (zS I23 J24 tg25)) rfl c32 ?_
      refine Runs.sN 9 (c' := (42, [.ref 67, .int a1], [.int ((I23 67 9) - 1), .ref 69, .int 20000, .ref 55], (zS I23 J24 tg25))) rfl ?_
      obtain ⟨c33, h⟩ := h
      refine Runs.to (c' := (43, [.ref 67, .int a1], [.int (I23 69 (((I23 67 9) - 1).toNatClampNeg)), .int 20000, .ref 55], (zS I23 J24 tg25))) (Runs.ild rfl (show (69 : Nat) < 114 by decide) rfl c33) ?_
      refine Runs.sN 1 (c' := (44, [.ref 67, .int a1], [.int (20000 + (I23 69 (((I23 67 9) - 1).toNatClampNeg))), .ref 55], (zS I23 J24 tg25))) rfl ?_
      obtain ⟨I26, J27, tg28, c34, h⟩ := h
      refine Runs.cl (cm := 25) (as := [.ref 55, .int (20000 + (I23 69 (((I23 67 9) - 1).toNatClampNeg)))]) (rest := []) (r1 := (none, (zS I26 J27 tg28))) rfl (Nat.le_of_ble_eq_true rfl) c34 ?_
      refine Runs.as (c' := (47, [.ref 67, .int a1], [], (zS I26 J27 tg28))) rfl ?_
      refine Runs.sN 7 (c' := (0, [.ref 67, .int a1], [], (zS (up2 I26 67 9 ((I26 67 9) - 1)) J27 tg28))) rfl ?_
      exact h
theorem sg_88t55_0 {L d : Nat} {xs : Nat → Int32} (I : Nat → Nat → Int32) (J : Nat → Nat → Int64) (tg : Option Nat) (x1 : Int32) {r : Option Value × SS} (h : ((if (I 67 9) ≤ 0 then (r = (none, (zS I J (some 55)))) else (¬ (((I 67 9) - 1) < 0 ∨ 300 ≤ ((I 67 9) - 1).toNatClampNeg) ∧ ∃ (v1 : Int32) (I2 : Nat → Nat → Int32) (J3 : Nat → Nat → Int64) (tg4 : Option Nat), Runs (GW L xs) d 89 (0, [.int (I 69 (((I 67 9) - 1).toNatClampNeg))], [], (zS I J (some 55))) ((some (.int v1)), (zS I2 J3 tg4)) ∧ (if v1 < x1 then (r = (none, (zS I2 J3 tg4))) else (¬ (((I2 67 9) - 1) < 0 ∨ 300 ≤ ((I2 67 9) - 1).toNatClampNeg) ∧ ∃ (I5 : Nat → Nat → Int32) (J6 : Nat → Nat → Int64) (tg7 : Option Nat), Runs (GW L xs) d 25 (0, [.ref 55, .int (20000 + (I2 69 (((I2 67 9) - 1).toNatClampNeg)))], [], (zS I2 J3 tg4)) (none, (zS I5 J6 tg7)) ∧ Runs (GW L xs) (d + 1) 88 (0, [.ref 67, .int x1], [], (zS (up2 I5 67 9 ((I5 67 9) - 1)) J6 tg7)) r)))))) : Runs (GW L xs) (d + 1) 88 (0, [.ref 67, .int x1], [], (zS I J (some 55))) r := by
  refine Runs.sN 2 (c' := (4, [.ref 67, .int x1], [.int (I 67 9)], (zS I J (some 55)))) rfl ?_
  by_cases c8 : (I 67 9) ≤ 0
  · rw [if_pos c8] at h
    refine Runs.brT (P := (I 67 9) ≤ 0) (a := 60) (b := 7) (L := [.ref 67, .int x1]) (S := []) (z := (zS I J (some 55))) rfl c8 ?_
    subst h
    exact Runs.rt rfl
  · rw [if_neg c8] at h
    refine Runs.brF (P := (I 67 9) ≤ 0) (a := 60) (b := 7) (L := [.ref 67, .int x1]) (S := []) (z := (zS I J (some 55))) rfl c8 ?_
    refine Runs.sN 6 (c' := (17, [.ref 67, .int x1], [.int ((I 67 9) - 1), .ref 69], (zS I J (some 55)))) rfl ?_
    obtain ⟨c9, h⟩ := h
    refine Runs.to (c' := (18, [.ref 67, .int x1], [.int (I 69 (((I 67 9) - 1).toNatClampNeg))], (zS I J (some 55)))) (Runs.ild rfl (show (69 : Nat) < 114 by decide) rfl c9) ?_
    obtain ⟨v1, I2, J3, tg4, c10, h⟩ := h
    refine Runs.cl (cm := 89) (as := [.int (I 69 (((I 67 9) - 1).toNatClampNeg))]) (rest := []) (r1 := ((some (.int v1)), (zS I2 J3 tg4))) rfl (Nat.le_of_ble_eq_true rfl) c10 ?_
    refine Runs.as (c' := (21, [.ref 67, .int x1], [.int v1], (zS I2 J3 tg4))) rfl ?_
    refine Runs.sN 1 (c' := (22, [.ref 67, .int x1], [.int x1, .int v1], (zS I2 J3 tg4))) rfl ?_
    by_cases c11 : v1 < x1
    · rw [if_pos c11] at h
      refine Runs.brT (P := v1 < x1) (a := 60) (b := 25) (L := [.ref 67, .int x1]) (S := []) (z := (zS I2 J3 tg4)) rfl c11 ?_
      subst h
      exact Runs.rt rfl
    · rw [if_neg c11] at h
      refine Runs.brF (P := v1 < x1) (a := 60) (b := 25) (L := [.ref 67, .int x1]) (S := []) (z := (zS I2 J3 tg4)) rfl c11 ?_
      refine Runs.sN 9 (c' := (42, [.ref 67, .int x1], [.int ((I2 67 9) - 1), .ref 69, .int 20000, .ref 55], (zS I2 J3 tg4))) rfl ?_
      obtain ⟨c12, h⟩ := h
      refine Runs.to (c' := (43, [.ref 67, .int x1], [.int (I2 69 (((I2 67 9) - 1).toNatClampNeg)), .int 20000, .ref 55], (zS I2 J3 tg4))) (Runs.ild rfl (show (69 : Nat) < 114 by decide) rfl c12) ?_
      refine Runs.sN 1 (c' := (44, [.ref 67, .int x1], [.int (20000 + (I2 69 (((I2 67 9) - 1).toNatClampNeg))), .ref 55], (zS I2 J3 tg4))) rfl ?_
      obtain ⟨I5, J6, tg7, c13, h⟩ := h
      refine Runs.cl (cm := 25) (as := [.ref 55, .int (20000 + (I2 69 (((I2 67 9) - 1).toNatClampNeg)))]) (rest := []) (r1 := (none, (zS I5 J6 tg7))) rfl (Nat.le_of_ble_eq_true rfl) c13 ?_
      refine Runs.as (c' := (47, [.ref 67, .int x1], [], (zS I5 J6 tg7))) rfl ?_
      refine Runs.sN 7 (c' := (0, [.ref 67, .int x1], [], (zS (up2 I5 67 9 ((I5 67 9) - 1)) J6 tg7))) rfl ?_
      exact h
-- X8_release t59
theorem sg_88t59 {L d : Nat} {xs : Nat → Int32} (I : Nat → Nat → Int32) (J : Nat → Nat → Int64) (tg : Option Nat) (a1 : Int32) {r : Option Value × SS} (h : ((if (I 67 9) ≤ 0 then (r = (none, (zS I J (some 59)))) else (¬ (((I 67 9) - 1) < 0 ∨ 300 ≤ ((I 67 9) - 1).toNatClampNeg) ∧ ∃ (v22 : Int32) (I23 : Nat → Nat → Int32) (J24 : Nat → Nat → Int64) (tg25 : Option Nat), Runs (GW L xs) d 89 (0, [.int (I 69 (((I 67 9) - 1).toNatClampNeg))], [], (zS I J (some 59))) ((some (.int v22)), (zS I23 J24 tg25)) ∧ (if v22 < a1 then (r = (none, (zS I23 J24 tg25))) else (¬ (((I23 67 9) - 1) < 0 ∨ 300 ≤ ((I23 67 9) - 1).toNatClampNeg) ∧ ∃ (I26 : Nat → Nat → Int32) (J27 : Nat → Nat → Int64) (tg28 : Option Nat), Runs (GW L xs) d 25 (0, [.ref 59, .int (20000 + (I23 69 (((I23 67 9) - 1).toNatClampNeg)))], [], (zS I23 J24 tg25)) (none, (zS I26 J27 tg28)) ∧ Runs (GW L xs) (d + 1) 88 (0, [.ref 67, .int a1], [], (zS (up2 I26 67 9 ((I26 67 9) - 1)) J27 tg28)) r)))))) : Runs (GW L xs) (d + 1) 88 (0, [.ref 67, .int a1], [], (zS I J (some 59))) r := by
  refine Runs.sN 2 (c' := (4, [.ref 67, .int a1], [.int (I 67 9)], (zS I J (some 59)))) rfl ?_
  by_cases c29 : (I 67 9) ≤ 0
  · rw [if_pos c29] at h
    refine Runs.brT (P := (I 67 9) ≤ 0) (a := 60) (b := 7) (L := [.ref 67, .int a1]) (S := []) (z := (zS I J (some 59))) rfl c29 ?_
    subst h
    exact Runs.rt rfl
  · rw [if_neg c29] at h
    refine Runs.brF (P := (I 67 9) ≤ 0) (a := 60) (b := 7) (L := [.ref 67, .int a1]) (S := []) (z := (zS I J (some 59))) rfl c29 ?_
    refine Runs.sN 6 (c' := (17, [.ref 67, .int a1], [.int ((I 67 9) - 1), .ref 69], (zS I J (some 59)))) rfl ?_
    obtain ⟨c30, h⟩ := h
    refine Runs.to (c' := (18, [.ref 67, .int a1], [.int (I 69 (((I 67 9) - 1).toNatClampNeg))], (zS I J (some 59)))) (Runs.ild rfl (show (69 : Nat) < 114 by decide) rfl c30) ?_
    obtain ⟨v22, I23, J24, tg25, c31, h⟩ := h
    refine Runs.cl (cm := 89) (as := [.int (I 69 (((I 67 9) - 1).toNatClampNeg))]) (rest := []) (r1 := ((some (.int v22)), (zS I23 J24 tg25))) rfl (Nat.le_of_ble_eq_true rfl) c31 ?_
    refine Runs.as (c' := (21, [.ref 67, .int a1], [.int v22], (zS I23 J24 tg25))) rfl ?_
    refine Runs.sN 1 (c' := (22, [.ref 67, .int a1], [.int a1, .int v22], (zS I23 J24 tg25))) rfl ?_
    by_cases c32 : v22 < a1
    · rw [if_pos c32] at h
      refine Runs.brT (P := v22 < a1) (a := 60) (b := 25) (L := [.ref 67, .int a1]) (S := []) (z := (zS I23 J24 tg25)) rfl c32 ?_
      subst h
      exact Runs.rt rfl
    · rw [if_neg c32] at h
      refine Runs.brF (P := v22 < a1) (a := 60) (b := 25) (L := [.ref 67, .int a1]) (S := []) (z := (zS I23 J24 tg25)) rfl c32 ?_
      refine Runs.sN 9 (c' := (42, [.ref 67, .int a1], [.int ((I23 67 9) - 1), .ref 69, .int 20000, .ref 59], (zS I23 J24 tg25))) rfl ?_
      obtain ⟨c33, h⟩ := h
      refine Runs.to (c' := (43, [.ref 67, .int a1], [.int (I23 69 (((I23 67 9) - 1).toNatClampNeg)), .int 20000, .ref 59], (zS I23 J24 tg25))) (Runs.ild rfl (show (69 : Nat) < 114 by decide) rfl c33) ?_
      refine Runs.sN 1 (c' := (44, [.ref 67, .int a1], [.int (20000 + (I23 69 (((I23 67 9) - 1).toNatClampNeg))), .ref 59], (zS I23 J24 tg25))) rfl ?_
      obtain ⟨I26, J27, tg28, c34, h⟩ := h
      refine Runs.cl (cm := 25) (as := [.ref 59, .int (20000 + (I23 69 (((I23 67 9) - 1).toNatClampNeg)))]) (rest := []) (r1 := (none, (zS I26 J27 tg28))) rfl (Nat.le_of_ble_eq_true rfl) c34 ?_
      refine Runs.as (c' := (47, [.ref 67, .int a1], [], (zS I26 J27 tg28))) rfl ?_
      refine Runs.sN 7 (c' := (0, [.ref 67, .int a1], [], (zS (up2 I26 67 9 ((I26 67 9) - 1)) J27 tg28))) rfl ?_
      exact h
theorem sg_88t59_0 {L d : Nat} {xs : Nat → Int32} (I : Nat → Nat → Int32) (J : Nat → Nat → Int64) (tg : Option Nat) (x1 : Int32) {r : Option Value × SS} (h : ((if (I 67 9) ≤ 0 then (r = (none, (zS I J (some 59)))) else (¬ (((I 67 9) - 1) < 0 ∨ 300 ≤ ((I 67 9) - 1).toNatClampNeg) ∧ ∃ (v1 : Int32) (I2 : Nat → Nat → Int32) (J3 : Nat → Nat → Int64) (tg4 : Option Nat), Runs (GW L xs) d 89 (0, [.int (I 69 (((I 67 9) - 1).toNatClampNeg))], [], (zS I J (some 59))) ((some (.int v1)), (zS I2 J3 tg4)) ∧ (if v1 < x1 then (r = (none, (zS I2 J3 tg4))) else (¬ (((I2 67 9) - 1) < 0 ∨ 300 ≤ ((I2 67 9) - 1).toNatClampNeg) ∧ ∃ (I5 : Nat → Nat → Int32) (J6 : Nat → Nat → Int64) (tg7 : Option Nat), Runs (GW L xs) d 25 (0, [.ref 59, .int (20000 + (I2 69 (((I2 67 9) - 1).toNatClampNeg)))], [], (zS I2 J3 tg4)) (none, (zS I5 J6 tg7)) ∧ Runs (GW L xs) (d + 1) 88 (0, [.ref 67, .int x1], [], (zS (up2 I5 67 9 ((I5 67 9) - 1)) J6 tg7)) r)))))) : Runs (GW L xs) (d + 1) 88 (0, [.ref 67, .int x1], [], (zS I J (some 59))) r := by
  refine Runs.sN 2 (c' := (4, [.ref 67, .int x1], [.int (I 67 9)], (zS I J (some 59)))) rfl ?_
  by_cases c8 : (I 67 9) ≤ 0
  · rw [if_pos c8] at h
    refine Runs.brT (P := (I 67 9) ≤ 0) (a := 60) (b := 7) (L := [.ref 67, .int x1]) (S := []) (z := (zS I J (some 59))) rfl c8 ?_
    subst h
    exact Runs.rt rfl
  · rw [if_neg c8] at h
    refine Runs.brF (P := (I 67 9) ≤ 0) (a := 60) (b := 7) (L := [.ref 67, .int x1]) (S := []) (z := (zS I J (some 59))) rfl c8 ?_
    refine Runs.sN 6 (c' := (17, [.ref 67, .int x1], [.int ((I 67 9) - 1), .ref 69], (zS I J (some 59)))) rfl ?_
    obtain ⟨c9, h⟩ := h
    refine Runs.to (c' := (18, [.ref 67, .int x1], [.int (I 69 (((I 67 9) - 1).toNatClampNeg))], (zS I J (some 59)))) (Runs.ild rfl (show (69 : Nat) < 114 by decide) rfl c9) ?_
    obtain ⟨v1, I2, J3, tg4, c10, h⟩ := h
    refine Runs.cl (cm := 89) (as := [.int (I 69 (((I 67 9) - 1).toNatClampNeg))]) (rest := []) (r1 := ((some (.int v1)), (zS I2 J3 tg4))) rfl (Nat.le_of_ble_eq_true rfl) c10 ?_
    refine Runs.as (c' := (21, [.ref 67, .int x1], [.int v1], (zS I2 J3 tg4))) rfl ?_
    refine Runs.sN 1 (c' := (22, [.ref 67, .int x1], [.int x1, .int v1], (zS I2 J3 tg4))) rfl ?_
    by_cases c11 : v1 < x1
    · rw [if_pos c11] at h
      refine Runs.brT (P := v1 < x1) (a := 60) (b := 25) (L := [.ref 67, .int x1]) (S := []) (z := (zS I2 J3 tg4)) rfl c11 ?_
      subst h
      exact Runs.rt rfl
    · rw [if_neg c11] at h
      refine Runs.brF (P := v1 < x1) (a := 60) (b := 25) (L := [.ref 67, .int x1]) (S := []) (z := (zS I2 J3 tg4)) rfl c11 ?_
      refine Runs.sN 9 (c' := (42, [.ref 67, .int x1], [.int ((I2 67 9) - 1), .ref 69, .int 20000, .ref 59], (zS I2 J3 tg4))) rfl ?_
      obtain ⟨c12, h⟩ := h
      refine Runs.to (c' := (43, [.ref 67, .int x1], [.int (I2 69 (((I2 67 9) - 1).toNatClampNeg)), .int 20000, .ref 59], (zS I2 J3 tg4))) (Runs.ild rfl (show (69 : Nat) < 114 by decide) rfl c12) ?_
      refine Runs.sN 1 (c' := (44, [.ref 67, .int x1], [.int (20000 + (I2 69 (((I2 67 9) - 1).toNatClampNeg))), .ref 59], (zS I2 J3 tg4))) rfl ?_
      obtain ⟨I5, J6, tg7, c13, h⟩ := h
      refine Runs.cl (cm := 25) (as := [.ref 59, .int (20000 + (I2 69 (((I2 67 9) - 1).toNatClampNeg)))]) (rest := []) (r1 := (none, (zS I5 J6 tg7))) rfl (Nat.le_of_ble_eq_true rfl) c13 ?_
      refine Runs.as (c' := (47, [.ref 67, .int x1], [], (zS I5 J6 tg7))) rfl ?_
      refine Runs.sN 7 (c' := (0, [.ref 67, .int x1], [], (zS (up2 I5 67 9 ((I5 67 9) - 1)) J6 tg7))) rfl ?_
      exact h
-- X8_rank 
theorem sg_89 {L d : Nat} {xs : Nat → Int32} (I : Nat → Nat → Int32) (J : Nat → Nat → Int64) (tg : Option Nat) (a1 : Int32) {r : Option Value × SS} (h : ((if a1 = 18 then (r = (some (.int 0), (zS I J tg))) else ((if a1 = 7 then (r = (some (.int 1), (zS I J tg))) else ((if a1 = 8 then (r = (some (.int 2), (zS I J tg))) else ((if 14 < a1 then ((if a1 = 17 then (r = (some (.int 5), (zS I J tg))) else (r = (some (.int 4), (zS I J tg))))) else (r = (some (.int 3), (zS I J tg)))))))))))) : Runs (GW L xs) d 89 (0, [.int a1], [], (zS I J tg)) r := by
  refine Runs.sN 2 (c' := (3, [.int a1], [.int 18, .int a1], (zS I J tg))) rfl ?_
  by_cases c1 : a1 = 18
  · rw [if_pos c1] at h
    refine Runs.brT (P := a1 = 18) (a := 6) (b := 8) (L := [.int a1]) (S := []) (z := (zS I J tg)) rfl c1 ?_
    refine Runs.sN 1 (c' := (7, [.int a1], [.int 0], (zS I J tg))) rfl ?_
    subst h
    exact Runs.rt rfl
  · rw [if_neg c1] at h
    refine Runs.brF (P := a1 = 18) (a := 6) (b := 8) (L := [.int a1]) (S := []) (z := (zS I J tg)) rfl c1 ?_
    refine Runs.sN 2 (c' := (11, [.int a1], [.int 7, .int a1], (zS I J tg))) rfl ?_
    by_cases c2 : a1 = 7
    · rw [if_pos c2] at h
      refine Runs.brT (P := a1 = 7) (a := 14) (b := 16) (L := [.int a1]) (S := []) (z := (zS I J tg)) rfl c2 ?_
      refine Runs.sN 1 (c' := (15, [.int a1], [.int 1], (zS I J tg))) rfl ?_
      subst h
      exact Runs.rt rfl
    · rw [if_neg c2] at h
      refine Runs.brF (P := a1 = 7) (a := 14) (b := 16) (L := [.int a1]) (S := []) (z := (zS I J tg)) rfl c2 ?_
      refine Runs.sN 2 (c' := (19, [.int a1], [.int 8, .int a1], (zS I J tg))) rfl ?_
      by_cases c3 : a1 = 8
      · rw [if_pos c3] at h
        refine Runs.brT (P := a1 = 8) (a := 22) (b := 24) (L := [.int a1]) (S := []) (z := (zS I J tg)) rfl c3 ?_
        refine Runs.sN 1 (c' := (23, [.int a1], [.int 2], (zS I J tg))) rfl ?_
        subst h
        exact Runs.rt rfl
      · rw [if_neg c3] at h
        refine Runs.brF (P := a1 = 8) (a := 22) (b := 24) (L := [.int a1]) (S := []) (z := (zS I J tg)) rfl c3 ?_
        refine Runs.sN 2 (c' := (27, [.int a1], [.int 14, .int a1], (zS I J tg))) rfl ?_
        by_cases c4 : 14 < a1
        · rw [if_pos c4] at h
          refine Runs.brT (P := 14 < a1) (a := 32) (b := 30) (L := [.int a1]) (S := []) (z := (zS I J tg)) rfl c4 ?_
          refine Runs.sN 2 (c' := (35, [.int a1], [.int 17, .int a1], (zS I J tg))) rfl ?_
          by_cases c5 : a1 = 17
          · rw [if_pos c5] at h
            refine Runs.brT (P := a1 = 17) (a := 38) (b := 42) (L := [.int a1]) (S := []) (z := (zS I J tg)) rfl c5 ?_
            refine Runs.sN 2 (c' := (43, [.int a1], [.int 5], (zS I J tg))) rfl ?_
            subst h
            exact Runs.rt rfl
          · rw [if_neg c5] at h
            refine Runs.brF (P := a1 = 17) (a := 38) (b := 42) (L := [.int a1]) (S := []) (z := (zS I J tg)) rfl c5 ?_
            refine Runs.sN 1 (c' := (43, [.int a1], [.int 4], (zS I J tg))) rfl ?_
            subst h
            exact Runs.rt rfl
        · rw [if_neg c4] at h
          refine Runs.brF (P := 14 < a1) (a := 32) (b := 30) (L := [.int a1]) (S := []) (z := (zS I J tg)) rfl c4 ?_
          refine Runs.sN 1 (c' := (31, [.int a1], [.int 3], (zS I J tg))) rfl ?_
          subst h
          exact Runs.rt rfl
-- X9_score 
theorem sg_92 {L d : Nat} {xs : Nat → Int32} (I : Nat → Nat → Int32) (J : Nat → Nat → Int64) (tg : Option Nat) (a1 : Int32) (a2 : Int32) {r : Option Value × SS} (h : (Runs (GW L xs) (d + 1) 92 (12, [.ref 75, .int a1, .int a2, .int 0], [], (zS (up2 (up2 I 75 8 a1) 75 9 a2) J tg)) r)) : Runs (GW L xs) (d + 1) 92 (0, [.ref 75, .int a1, .int a2, vU], [], (zS I J tg)) r := by
  refine Runs.sN 8 (c' := (12, [.ref 75, .int a1, .int a2, .int 0], [], (zS (up2 (up2 I 75 8 a1) 75 9 a2) J tg))) rfl ?_
  exact h
theorem sg_92_12 {L d : Nat} {xs : Nat → Int32} (I : Nat → Nat → Int32) (J : Nat → Nat → Int64) (tg : Option Nat) (x1 : Int32) (x2 : Int32) (x3 : Int32) {r : Option Value × SS} (h : ((if (I 1 1) ≤ x3 then (r = (none, (zS I J tg))) else (∃ (v1 : Int32) (I2 : Nat → Nat → Int32) (J3 : Nat → Nat → Int64) (tg4 : Option Nat), Runs (GW L xs) d 62 (0, [.ref 70, .int x1, .int (12 + x3), vU], [], (zS I J tg)) ((some (.int v1)), (zS I2 J3 tg4)) ∧ ∃ (I5 : Nat → Nat → Int32) (J6 : Nat → Nat → Int64) (tg7 : Option Nat), Runs (GW L xs) d 96 (0, [.ref 75, .int x3, .int v1], [], (zS I2 J3 tg4)) (none, (zS I5 J6 tg7)) ∧ Runs (GW L xs) (d + 1) 92 (12, [.ref 75, .int x1, .int x2, .int (x3 + 1)], [], (zS I5 J6 tg7)) r)))) : Runs (GW L xs) (d + 1) 92 (12, [.ref 75, .int x1, .int x2, .int x3], [], (zS I J tg)) r := by
  refine Runs.sN 4 (c' := (20, [.ref 75, .int x1, .int x2, .int x3], [.int (I 1 1), .int x3], (zS I J tg))) rfl ?_
  by_cases c8 : (I 1 1) ≤ x3
  · rw [if_pos c8] at h
    refine Runs.brT (P := (I 1 1) ≤ x3) (a := 46) (b := 23) (L := [.ref 75, .int x1, .int x2, .int x3]) (S := []) (z := (zS I J tg)) rfl c8 ?_
    subst h
    exact Runs.rt rfl
  · rw [if_neg c8] at h
    refine Runs.brF (P := (I 1 1) ≤ x3) (a := 46) (b := 23) (L := [.ref 75, .int x1, .int x2, .int x3]) (S := []) (z := (zS I J tg)) rfl c8 ?_
    refine Runs.sN 8 (c' := (34, [.ref 75, .int x1, .int x2, .int x3], [.int (12 + x3), .int x1, .ref 70, .int x3, .ref 75], (zS I J tg))) rfl ?_
    obtain ⟨v1, I2, J3, tg4, c9, h⟩ := h
    refine Runs.cl (cm := 62) (as := [.ref 70, .int x1, .int (12 + x3)]) (rest := [.int x3, .ref 75]) (r1 := ((some (.int v1)), (zS I2 J3 tg4))) rfl (Nat.le_of_ble_eq_true rfl) c9 ?_
    refine Runs.as (c' := (37, [.ref 75, .int x1, .int x2, .int x3], [.int v1, .int x3, .ref 75], (zS I2 J3 tg4))) rfl ?_
    obtain ⟨I5, J6, tg7, c10, h⟩ := h
    refine Runs.cl (cm := 96) (as := [.ref 75, .int x3, .int v1]) (rest := []) (r1 := (none, (zS I5 J6 tg7))) rfl (Nat.le_of_ble_eq_true rfl) c10 ?_
    refine Runs.as (c' := (40, [.ref 75, .int x1, .int x2, .int x3], [], (zS I5 J6 tg7))) rfl ?_
    refine Runs.sN 2 (c' := (12, [.ref 75, .int x1, .int x2, .int (x3 + 1)], [], (zS I5 J6 tg7))) rfl ?_
    exact h
-- X9_regard 
theorem sg_93 {L d : Nat} {xs : Nat → Int32} (I : Nat → Nat → Int32) (J : Nat → Nat → Int64) (tg : Option Nat) (a1 : Int32) (a2 : Int32) {r : Option Value × SS} (h : (¬ (a1 < 0 ∨ 24 ≤ (a1).toNatClampNeg) ∧ ∃ (I7 : Nat → Nat → Int32) (J8 : Nat → Nat → Int64) (tg9 : Option Nat), Runs (GW L xs) d 97 (0, [.ref 75, .int a1, .int a2, .ref 2, .int (a1 * 6), .int (I 3 ((a1).toNatClampNeg)), vU], [], (zS I J tg)) (none, (zS I7 J8 tg9)) ∧ ∃ (I10 : Nat → Nat → Int32) (J11 : Nat → Nat → Int64) (tg12 : Option Nat), Runs (GW L xs) d 98 (0, [.ref 75], [], (zS I7 J8 tg9)) (none, (zS I10 J11 tg12)) ∧ r = (none, (zS I10 J11 tg12)))) : Runs (GW L xs) (d + 1) 93 (0, [.ref 75, .int a1, .int a2], [], (zS I J tg)) r := by
  refine Runs.sN 13 (c' := (22, [.ref 75, .int a1, .int a2], [.int a1, .ref 3, .int (a1 * 6), .ref 2, .int a2, .int a1, .ref 75], (zS I J tg))) rfl ?_
  obtain ⟨c13, h⟩ := h
  refine Runs.to (c' := (23, [.ref 75, .int a1, .int a2], [.int (I 3 ((a1).toNatClampNeg)), .int (a1 * 6), .ref 2, .int a2, .int a1, .ref 75], (zS I J tg))) (Runs.ild rfl (show (3 : Nat) < 114 by decide) rfl c13) ?_
  obtain ⟨I7, J8, tg9, c14, h⟩ := h
  refine Runs.cl (cm := 97) (as := [.ref 75, .int a1, .int a2, .ref 2, .int (a1 * 6), .int (I 3 ((a1).toNatClampNeg))]) (rest := []) (r1 := (none, (zS I7 J8 tg9))) rfl (Nat.le_of_ble_eq_true rfl) c14 ?_
  refine Runs.as (c' := (26, [.ref 75, .int a1, .int a2], [], (zS I7 J8 tg9))) rfl ?_
  refine Runs.sN 1 (c' := (27, [.ref 75, .int a1, .int a2], [.ref 75], (zS I7 J8 tg9))) rfl ?_
  obtain ⟨I10, J11, tg12, c15, h⟩ := h
  refine Runs.cl (cm := 98) (as := [.ref 75]) (rest := []) (r1 := (none, (zS I10 J11 tg12))) rfl (Nat.le_of_ble_eq_true rfl) c15 ?_
  refine Runs.as (c' := (30, [.ref 75, .int a1, .int a2], [], (zS I10 J11 tg12))) rfl ?_
  subst h
  exact Runs.rt rfl
-- X9_meet 
theorem sg_94 {L d : Nat} {xs : Nat → Int32} (I : Nat → Nat → Int32) (J : Nat → Nat → Int64) (tg : Option Nat) (a1 : Int32) (a2 : Int32) {r : Option Value × SS} (h : (∃ (I7 : Nat → Nat → Int32) (J8 : Nat → Nat → Int64) (tg9 : Option Nat), Runs (GW L xs) d 92 (0, [.ref 75, .int a1, .int a2, vU], [], (zS I J tg)) (none, (zS I7 J8 tg9)) ∧ ∃ (I10 : Nat → Nat → Int32) (J11 : Nat → Nat → Int64) (tg12 : Option Nat), Runs (GW L xs) d 93 (0, [.ref 75, .int a1, .int a2], [], (zS I7 J8 tg9)) (none, (zS I10 J11 tg12)) ∧ r = (none, (zS I10 J11 tg12)))) : Runs (GW L xs) (d + 1) 94 (0, [.ref 75, .int a1, .int a2], [], (zS I J tg)) r := by
  refine Runs.sN 3 (c' := (3, [.ref 75, .int a1, .int a2], [.int a2, .int a1, .ref 75], (zS I J tg))) rfl ?_
  obtain ⟨I7, J8, tg9, c13, h⟩ := h
  refine Runs.cl (cm := 92) (as := [.ref 75, .int a1, .int a2]) (rest := []) (r1 := (none, (zS I7 J8 tg9))) rfl (Nat.le_of_ble_eq_true rfl) c13 ?_
  refine Runs.as (c' := (6, [.ref 75, .int a1, .int a2], [], (zS I7 J8 tg9))) rfl ?_
  refine Runs.sN 3 (c' := (9, [.ref 75, .int a1, .int a2], [.int a2, .int a1, .ref 75], (zS I7 J8 tg9))) rfl ?_
  obtain ⟨I10, J11, tg12, c14, h⟩ := h
  refine Runs.cl (cm := 93) (as := [.ref 75, .int a1, .int a2]) (rest := []) (r1 := (none, (zS I10 J11 tg12))) rfl (Nat.le_of_ble_eq_true rfl) c14 ?_
  refine Runs.as (c' := (12, [.ref 75, .int a1, .int a2], [], (zS I10 J11 tg12))) rfl ?_
  subst h
  exact Runs.rt rfl
-- X9_meetChanged c80
theorem sg_95c80 {L d : Nat} {xs : Nat → Int32} (I : Nat → Nat → Int32) (J : Nat → Nat → Int64) (tg : Option Nat) (a1 : Int32) (a2 : Int32) (a3 : Int32) {r : Option Value × SS} (h : (∃ (I17 : Nat → Nat → Int32) (J18 : Nat → Nat → Int64) (tg19 : Option Nat), Runs (GW L xs) d 97 (0, [.ref 75, .int a1, .int a2, .ref 80, .int 0, .int a3, vU], [], (zS I J tg)) (none, (zS I17 J18 tg19)) ∧ Runs (GW L xs) (d + 1) 95 (13, [.ref 75, .int a1, .int a2, .ref 80, .int a3, .int 0], [], (zS I17 J18 tg19)) r)) : Runs (GW L xs) (d + 1) 95 (0, [.ref 75, .int a1, .int a2, .ref 80, .int a3, vU], [], (zS I J tg)) r := by
  refine Runs.sN 6 (c' := (7, [.ref 75, .int a1, .int a2, .ref 80, .int a3, vU], [.int a3, .int 0, .ref 80, .int a2, .int a1, .ref 75], (zS I J tg))) rfl ?_
  obtain ⟨I17, J18, tg19, c20, h⟩ := h
  refine Runs.cl (cm := 97) (as := [.ref 75, .int a1, .int a2, .ref 80, .int 0, .int a3]) (rest := []) (r1 := (none, (zS I17 J18 tg19))) rfl (Nat.le_of_ble_eq_true rfl) c20 ?_
  refine Runs.as (c' := (10, [.ref 75, .int a1, .int a2, .ref 80, .int a3, vU], [], (zS I17 J18 tg19))) rfl ?_
  refine Runs.sN 2 (c' := (13, [.ref 75, .int a1, .int a2, .ref 80, .int a3, .int 0], [], (zS I17 J18 tg19))) rfl ?_
  exact h
theorem sg_95c80_13 {L d : Nat} {xs : Nat → Int32} (I : Nat → Nat → Int32) (J : Nat → Nat → Int64) (tg : Option Nat) (x1 : Int32) (x2 : Int32) (x4 : Int32) (x5 : Int32) {r : Option Value × SS} (h : ((if (I 1 1) ≤ x5 then (∃ (I1 : Nat → Nat → Int32) (J2 : Nat → Nat → Int64) (tg3 : Option Nat), Runs (GW L xs) d 98 (0, [.ref 75], [], (zS I J tg)) (none, (zS I1 J2 tg3)) ∧ r = (none, (zS I1 J2 tg3))) else (¬ (x1 < 0 ∨ 24 ≤ (x1).toNatClampNeg) ∧ ∃ (v4 : Int32) (I5 : Nat → Nat → Int32) (J6 : Nat → Nat → Int64) (tg7 : Option Nat), Runs (GW L xs) d 63 (0, [.ref 70, .ref 80, .int 0, .int x4, .int (I 4 ((x1).toNatClampNeg)), .int (12 + x5), vU], [], (zS I J tg)) ((some (.int v4)), (zS I5 J6 tg7)) ∧ ∃ (I8 : Nat → Nat → Int32) (J9 : Nat → Nat → Int64) (tg10 : Option Nat), Runs (GW L xs) d 96 (0, [.ref 75, .int x5, .int v4], [], (zS I5 J6 tg7)) (none, (zS I8 J9 tg10)) ∧ Runs (GW L xs) (d + 1) 95 (13, [.ref 75, .int x1, .int x2, .ref 80, .int x4, .int (x5 + 1)], [], (zS I8 J9 tg10)) r)))) : Runs (GW L xs) (d + 1) 95 (13, [.ref 75, .int x1, .int x2, .ref 80, .int x4, .int x5], [], (zS I J tg)) r := by
  refine Runs.sN 4 (c' := (22, [.ref 75, .int x1, .int x2, .ref 80, .int x4, .int x5], [.int (I 1 1), .int x5], (zS I J tg))) rfl ?_
  by_cases c11 : (I 1 1) ≤ x5
  · rw [if_pos c11] at h
    refine Runs.brT (P := (I 1 1) ≤ x5) (a := 62) (b := 25) (L := [.ref 75, .int x1, .int x2, .ref 80, .int x4, .int x5]) (S := []) (z := (zS I J tg)) rfl c11 ?_
    refine Runs.sN 1 (c' := (63, [.ref 75, .int x1, .int x2, .ref 80, .int x4, .int x5], [.ref 75], (zS I J tg))) rfl ?_
    obtain ⟨I1, J2, tg3, c12, h⟩ := h
    refine Runs.cl (cm := 98) (as := [.ref 75]) (rest := []) (r1 := (none, (zS I1 J2 tg3))) rfl (Nat.le_of_ble_eq_true rfl) c12 ?_
    refine Runs.as (c' := (66, [.ref 75, .int x1, .int x2, .ref 80, .int x4, .int x5], [], (zS I1 J2 tg3))) rfl ?_
    subst h
    exact Runs.rt rfl
  · rw [if_neg c11] at h
    refine Runs.brF (P := (I 1 1) ≤ x5) (a := 62) (b := 25) (L := [.ref 75, .int x1, .int x2, .ref 80, .int x4, .int x5]) (S := []) (z := (zS I J tg)) rfl c11 ?_
    refine Runs.sN 11 (c' := (44, [.ref 75, .int x1, .int x2, .ref 80, .int x4, .int x5], [.int x1, .ref 4, .int x4, .int 0, .ref 80, .ref 70, .int x5, .ref 75], (zS I J tg))) rfl ?_
    obtain ⟨c13, h⟩ := h
    refine Runs.to (c' := (45, [.ref 75, .int x1, .int x2, .ref 80, .int x4, .int x5], [.int (I 4 ((x1).toNatClampNeg)), .int x4, .int 0, .ref 80, .ref 70, .int x5, .ref 75], (zS I J tg))) (Runs.ild rfl (show (4 : Nat) < 114 by decide) rfl c13) ?_
    refine Runs.sN 3 (c' := (50, [.ref 75, .int x1, .int x2, .ref 80, .int x4, .int x5], [.int (12 + x5), .int (I 4 ((x1).toNatClampNeg)), .int x4, .int 0, .ref 80, .ref 70, .int x5, .ref 75], (zS I J tg))) rfl ?_
    obtain ⟨v4, I5, J6, tg7, c14, h⟩ := h
    refine Runs.cl (cm := 63) (as := [.ref 70, .ref 80, .int 0, .int x4, .int (I 4 ((x1).toNatClampNeg)), .int (12 + x5)]) (rest := [.int x5, .ref 75]) (r1 := ((some (.int v4)), (zS I5 J6 tg7))) rfl (Nat.le_of_ble_eq_true rfl) c14 ?_
    refine Runs.as (c' := (53, [.ref 75, .int x1, .int x2, .ref 80, .int x4, .int x5], [.int v4, .int x5, .ref 75], (zS I5 J6 tg7))) rfl ?_
    obtain ⟨I8, J9, tg10, c15, h⟩ := h
    refine Runs.cl (cm := 96) (as := [.ref 75, .int x5, .int v4]) (rest := []) (r1 := (none, (zS I8 J9 tg10))) rfl (Nat.le_of_ble_eq_true rfl) c15 ?_
    refine Runs.as (c' := (56, [.ref 75, .int x1, .int x2, .ref 80, .int x4, .int x5], [], (zS I8 J9 tg10))) rfl ?_
    refine Runs.sN 2 (c' := (13, [.ref 75, .int x1, .int x2, .ref 80, .int x4, .int (x5 + 1)], [], (zS I8 J9 tg10))) rfl ?_
    exact h
-- X9_setFar 
theorem sg_96 {L d : Nat} {xs : Nat → Int32} (I : Nat → Nat → Int32) (J : Nat → Nat → Int64) (tg : Option Nat) (a1 : Int32) (a2 : Int32) {r : Option Value × SS} (h : (¬ ((((I 75 9) * 12) + a1) < 0 ∨ 72 ≤ (((I 75 9) * 12) + a1).toNatClampNeg) ∧ ¬ (a1 < 0 ∨ 12 ≤ (a1).toNatClampNeg) ∧ r = (none, (zS (up2 I 77 ((a1).toNatClampNeg) (a2 - (I 10 ((((I 75 9) * 12) + a1).toNatClampNeg)))) J tg)))) : Runs (GW L xs) d 96 (0, [.ref 75, .int a1, .int a2], [], (zS I J tg)) r := by
  refine Runs.sN 13 (c' := (22, [.ref 75, .int a1, .int a2], [.int (((I 75 9) * 12) + a1), .ref 10, .int a2, .int a1, .ref 77], (zS I J tg))) rfl ?_
  obtain ⟨c1, h⟩ := h
  refine Runs.to (c' := (23, [.ref 75, .int a1, .int a2], [.int (I 10 ((((I 75 9) * 12) + a1).toNatClampNeg)), .int a2, .int a1, .ref 77], (zS I J tg))) (Runs.ild rfl (show (10 : Nat) < 114 by decide) rfl c1) ?_
  refine Runs.sN 1 (c' := (24, [.ref 75, .int a1, .int a2], [.int (a2 - (I 10 ((((I 75 9) * 12) + a1).toNatClampNeg))), .int a1, .ref 77], (zS I J tg))) rfl ?_
  obtain ⟨c2, h⟩ := h
  refine Runs.to (c' := (25, [.ref 75, .int a1, .int a2], [], (zS (up2 I 77 ((a1).toNatClampNeg) (a2 - (I 10 ((((I 75 9) * 12) + a1).toNatClampNeg)))) J tg))) (Runs.ist rfl (show (77 : Nat) < 114 by decide) rfl c2) ?_
  subst h
  exact Runs.rt rfl
-- X9_countFacts c2
theorem sg_97c2 {L d : Nat} {xs : Nat → Int32} (I : Nat → Nat → Int32) (J : Nat → Nat → Int64) (tg : Option Nat) (a1 : Int32) (a2 : Int32) (a3 : Int32) (a4 : Int32) {r : Option Value × SS} (h : (∃ (I11 : Nat → Nat → Int32) (J12 : Nat → Nat → Int64) (tg13 : Option Nat), Runs (GW L xs) d 301 (0, [.ref 78, .int 0, vU, vU], [], (zS (up2 (up2 I 75 8 a1) 75 9 a2) J tg)) (none, (zS I11 J12 tg13)) ∧ Runs (GW L xs) (d + 1) 97 (21, [.ref 75, .int a1, .int a2, .ref 2, .int a3, .int a4, .int 0], [], (zS I11 J12 tg13)) r)) : Runs (GW L xs) (d + 1) 97 (0, [.ref 75, .int a1, .int a2, .ref 2, .int a3, .int a4, vU], [], (zS I J tg)) r := by
  refine Runs.sN 9 (c' := (15, [.ref 75, .int a1, .int a2, .ref 2, .int a3, .int a4, vU], [.int 0, .ref 78], (zS (up2 (up2 I 75 8 a1) 75 9 a2) J tg))) rfl ?_
  obtain ⟨I11, J12, tg13, c14, h⟩ := h
  refine Runs.cl (cm := 301) (as := [.ref 78, .int 0]) (rest := []) (r1 := (none, (zS I11 J12 tg13))) rfl (Nat.le_of_ble_eq_true rfl) c14 ?_
  refine Runs.as (c' := (18, [.ref 75, .int a1, .int a2, .ref 2, .int a3, .int a4, vU], [], (zS I11 J12 tg13))) rfl ?_
  refine Runs.sN 2 (c' := (21, [.ref 75, .int a1, .int a2, .ref 2, .int a3, .int a4, .int 0], [], (zS I11 J12 tg13))) rfl ?_
  exact h
theorem sg_97c2_21 {L d : Nat} {xs : Nat → Int32} (I : Nat → Nat → Int32) (J : Nat → Nat → Int64) (tg : Option Nat) (x1 : Int32) (x2 : Int32) (x4 : Int32) (x5 : Int32) (x6 : Int32) {r : Option Value × SS} (h : ((if x5 ≤ x6 then (¬ (x1 < 0 ∨ 24 ≤ (x1).toNatClampNeg) ∧ ¬ (x1 < 0 ∨ 12 ≤ (x1).toNatClampNeg) ∧ r = (none, (zS (up2 (up2 (up2 I 78 5 x5) 78 6 (I 4 ((x1).toNatClampNeg))) 78 7 (I 5 ((x1).toNatClampNeg))) J tg))) else (¬ ((x4 + x6) < 0 ∨ 144 ≤ (x4 + x6).toNatClampNeg) ∧ ∃ (v1 : Int32) (I2 : Nat → Nat → Int32) (J3 : Nat → Nat → Int64) (tg4 : Option Nat), Runs (GW L xs) d 170 (0, [.int (I 2 ((x4 + x6).toNatClampNeg))], [], (zS I J tg)) ((some (.int v1)), (zS I2 J3 tg4)) ∧ ¬ (v1 < 0 ∨ 12 ≤ (v1).toNatClampNeg) ∧ ¬ (v1 < 0 ∨ 12 ≤ (v1).toNatClampNeg) ∧ Runs (GW L xs) (d + 1) 97 (21, [.ref 75, .int x1, .int x2, .ref 2, .int x4, .int x5, .int (x6 + 1)], [], (zS (up2 I2 78 ((v1).toNatClampNeg) ((I2 78 ((v1).toNatClampNeg)) + 1)) J3 tg4)) r)))) : Runs (GW L xs) (d + 1) 97 (21, [.ref 75, .int x1, .int x2, .ref 2, .int x4, .int x5, .int x6], [], (zS I J tg)) r := by
  refine Runs.sN 2 (c' := (25, [.ref 75, .int x1, .int x2, .ref 2, .int x4, .int x5, .int x6], [.int x5, .int x6], (zS I J tg))) rfl ?_
  by_cases c5 : x5 ≤ x6
  · rw [if_pos c5] at h
    refine Runs.brT (P := x5 ≤ x6) (a := 53) (b := 28) (L := [.ref 75, .int x1, .int x2, .ref 2, .int x4, .int x5, .int x6]) (S := []) (z := (zS I J tg)) rfl c5 ?_
    refine Runs.sN 12 (c' := (75, [.ref 75, .int x1, .int x2, .ref 2, .int x4, .int x5, .int x6], [.int x1, .ref 4, .int 6, .ref 78], (zS (up2 I 78 5 x5) J tg))) rfl ?_
    obtain ⟨c6, h⟩ := h
    refine Runs.to (c' := (76, [.ref 75, .int x1, .int x2, .ref 2, .int x4, .int x5, .int x6], [.int (I 4 ((x1).toNatClampNeg)), .int 6, .ref 78], (zS (up2 I 78 5 x5) J tg))) (Runs.ild rfl (show (4 : Nat) < 114 by decide) rfl c6) ?_
    refine Runs.sN 8 (c' := (91, [.ref 75, .int x1, .int x2, .ref 2, .int x4, .int x5, .int x6], [.int x1, .ref 5, .int 7, .ref 78], (zS (up2 (up2 I 78 5 x5) 78 6 (I 4 ((x1).toNatClampNeg))) J tg))) rfl ?_
    obtain ⟨c7, h⟩ := h
    refine Runs.to (c' := (92, [.ref 75, .int x1, .int x2, .ref 2, .int x4, .int x5, .int x6], [.int (I 5 ((x1).toNatClampNeg)), .int 7, .ref 78], (zS (up2 (up2 I 78 5 x5) 78 6 (I 4 ((x1).toNatClampNeg))) J tg))) (Runs.ild rfl (show (5 : Nat) < 114 by decide) rfl c7) ?_
    refine Runs.sN 1 (c' := (93, [.ref 75, .int x1, .int x2, .ref 2, .int x4, .int x5, .int x6], [], (zS (up2 (up2 (up2 I 78 5 x5) 78 6 (I 4 ((x1).toNatClampNeg))) 78 7 (I 5 ((x1).toNatClampNeg))) J tg))) rfl ?_
    subst h
    exact Runs.rt rfl
  · rw [if_neg c5] at h
    refine Runs.brF (P := x5 ≤ x6) (a := 53) (b := 28) (L := [.ref 75, .int x1, .int x2, .ref 2, .int x4, .int x5, .int x6]) (S := []) (z := (zS I J tg)) rfl c5 ?_
    refine Runs.sN 6 (c' := (38, [.ref 75, .int x1, .int x2, .ref 2, .int x4, .int x5, .int x6], [.int (x4 + x6), .ref 2, .ref 78], (zS I J tg))) rfl ?_
    obtain ⟨c8, h⟩ := h
    refine Runs.to (c' := (39, [.ref 75, .int x1, .int x2, .ref 2, .int x4, .int x5, .int x6], [.int (I 2 ((x4 + x6).toNatClampNeg)), .ref 78], (zS I J tg))) (Runs.ild rfl (show (2 : Nat) < 114 by decide) rfl c8) ?_
    obtain ⟨v1, I2, J3, tg4, c9, h⟩ := h
    refine Runs.cl (cm := 170) (as := [.int (I 2 ((x4 + x6).toNatClampNeg))]) (rest := [.ref 78]) (r1 := ((some (.int v1)), (zS I2 J3 tg4))) rfl (Nat.le_of_ble_eq_true rfl) c9 ?_
    refine Runs.as (c' := (42, [.ref 75, .int x1, .int x2, .ref 2, .int x4, .int x5, .int x6], [.int v1, .ref 78], (zS I2 J3 tg4))) rfl ?_
    refine Runs.sN 1 (c' := (43, [.ref 75, .int x1, .int x2, .ref 2, .int x4, .int x5, .int x6], [.int v1, .ref 78, .int v1, .ref 78], (zS I2 J3 tg4))) rfl ?_
    obtain ⟨c10, h⟩ := h
    refine Runs.to (c' := (44, [.ref 75, .int x1, .int x2, .ref 2, .int x4, .int x5, .int x6], [.int (I2 78 ((v1).toNatClampNeg)), .int v1, .ref 78], (zS I2 J3 tg4))) (Runs.ild rfl (show (78 : Nat) < 114 by decide) rfl c10) ?_
    refine Runs.sN 2 (c' := (46, [.ref 75, .int x1, .int x2, .ref 2, .int x4, .int x5, .int x6], [.int ((I2 78 ((v1).toNatClampNeg)) + 1), .int v1, .ref 78], (zS I2 J3 tg4))) rfl ?_
    obtain ⟨c11, h⟩ := h
    refine Runs.to (c' := (47, [.ref 75, .int x1, .int x2, .ref 2, .int x4, .int x5, .int x6], [], (zS (up2 I2 78 ((v1).toNatClampNeg) ((I2 78 ((v1).toNatClampNeg)) + 1)) J3 tg4))) (Runs.ist rfl (show (78 : Nat) < 114 by decide) rfl c11) ?_
    refine Runs.sN 2 (c' := (21, [.ref 75, .int x1, .int x2, .ref 2, .int x4, .int x5, .int (x6 + 1)], [], (zS (up2 I2 78 ((v1).toNatClampNeg) ((I2 78 ((v1).toNatClampNeg)) + 1)) J3 tg4))) rfl ?_
    exact h
-- X9_countFacts c80
theorem sg_97c80 {L d : Nat} {xs : Nat → Int32} (I : Nat → Nat → Int32) (J : Nat → Nat → Int64) (tg : Option Nat) (a1 : Int32) (a2 : Int32) (a3 : Int32) (a4 : Int32) {r : Option Value × SS} (h : (∃ (I11 : Nat → Nat → Int32) (J12 : Nat → Nat → Int64) (tg13 : Option Nat), Runs (GW L xs) d 301 (0, [.ref 78, .int 0, vU, vU], [], (zS (up2 (up2 I 75 8 a1) 75 9 a2) J tg)) (none, (zS I11 J12 tg13)) ∧ Runs (GW L xs) (d + 1) 97 (21, [.ref 75, .int a1, .int a2, .ref 80, .int a3, .int a4, .int 0], [], (zS I11 J12 tg13)) r)) : Runs (GW L xs) (d + 1) 97 (0, [.ref 75, .int a1, .int a2, .ref 80, .int a3, .int a4, vU], [], (zS I J tg)) r := by
  refine Runs.sN 9 (c' := (15, [.ref 75, .int a1, .int a2, .ref 80, .int a3, .int a4, vU], [.int 0, .ref 78], (zS (up2 (up2 I 75 8 a1) 75 9 a2) J tg))) rfl ?_
  obtain ⟨I11, J12, tg13, c14, h⟩ := h
  refine Runs.cl (cm := 301) (as := [.ref 78, .int 0]) (rest := []) (r1 := (none, (zS I11 J12 tg13))) rfl (Nat.le_of_ble_eq_true rfl) c14 ?_
  refine Runs.as (c' := (18, [.ref 75, .int a1, .int a2, .ref 80, .int a3, .int a4, vU], [], (zS I11 J12 tg13))) rfl ?_
  refine Runs.sN 2 (c' := (21, [.ref 75, .int a1, .int a2, .ref 80, .int a3, .int a4, .int 0], [], (zS I11 J12 tg13))) rfl ?_
  exact h
theorem sg_97c80_21 {L d : Nat} {xs : Nat → Int32} (I : Nat → Nat → Int32) (J : Nat → Nat → Int64) (tg : Option Nat) (x1 : Int32) (x2 : Int32) (x4 : Int32) (x5 : Int32) (x6 : Int32) {r : Option Value × SS} (h : ((if x5 ≤ x6 then (¬ (x1 < 0 ∨ 24 ≤ (x1).toNatClampNeg) ∧ ¬ (x1 < 0 ∨ 12 ≤ (x1).toNatClampNeg) ∧ r = (none, (zS (up2 (up2 (up2 I 78 5 x5) 78 6 (I 4 ((x1).toNatClampNeg))) 78 7 (I 5 ((x1).toNatClampNeg))) J tg))) else (¬ ((x4 + x6) < 0 ∨ 6 ≤ (x4 + x6).toNatClampNeg) ∧ ∃ (v1 : Int32) (I2 : Nat → Nat → Int32) (J3 : Nat → Nat → Int64) (tg4 : Option Nat), Runs (GW L xs) d 170 (0, [.int (I 80 ((x4 + x6).toNatClampNeg))], [], (zS I J tg)) ((some (.int v1)), (zS I2 J3 tg4)) ∧ ¬ (v1 < 0 ∨ 12 ≤ (v1).toNatClampNeg) ∧ ¬ (v1 < 0 ∨ 12 ≤ (v1).toNatClampNeg) ∧ Runs (GW L xs) (d + 1) 97 (21, [.ref 75, .int x1, .int x2, .ref 80, .int x4, .int x5, .int (x6 + 1)], [], (zS (up2 I2 78 ((v1).toNatClampNeg) ((I2 78 ((v1).toNatClampNeg)) + 1)) J3 tg4)) r)))) : Runs (GW L xs) (d + 1) 97 (21, [.ref 75, .int x1, .int x2, .ref 80, .int x4, .int x5, .int x6], [], (zS I J tg)) r := by
  refine Runs.sN 2 (c' := (25, [.ref 75, .int x1, .int x2, .ref 80, .int x4, .int x5, .int x6], [.int x5, .int x6], (zS I J tg))) rfl ?_
  by_cases c5 : x5 ≤ x6
  · rw [if_pos c5] at h
    refine Runs.brT (P := x5 ≤ x6) (a := 53) (b := 28) (L := [.ref 75, .int x1, .int x2, .ref 80, .int x4, .int x5, .int x6]) (S := []) (z := (zS I J tg)) rfl c5 ?_
    refine Runs.sN 12 (c' := (75, [.ref 75, .int x1, .int x2, .ref 80, .int x4, .int x5, .int x6], [.int x1, .ref 4, .int 6, .ref 78], (zS (up2 I 78 5 x5) J tg))) rfl ?_
    obtain ⟨c6, h⟩ := h
    refine Runs.to (c' := (76, [.ref 75, .int x1, .int x2, .ref 80, .int x4, .int x5, .int x6], [.int (I 4 ((x1).toNatClampNeg)), .int 6, .ref 78], (zS (up2 I 78 5 x5) J tg))) (Runs.ild rfl (show (4 : Nat) < 114 by decide) rfl c6) ?_
    refine Runs.sN 8 (c' := (91, [.ref 75, .int x1, .int x2, .ref 80, .int x4, .int x5, .int x6], [.int x1, .ref 5, .int 7, .ref 78], (zS (up2 (up2 I 78 5 x5) 78 6 (I 4 ((x1).toNatClampNeg))) J tg))) rfl ?_
    obtain ⟨c7, h⟩ := h
    refine Runs.to (c' := (92, [.ref 75, .int x1, .int x2, .ref 80, .int x4, .int x5, .int x6], [.int (I 5 ((x1).toNatClampNeg)), .int 7, .ref 78], (zS (up2 (up2 I 78 5 x5) 78 6 (I 4 ((x1).toNatClampNeg))) J tg))) (Runs.ild rfl (show (5 : Nat) < 114 by decide) rfl c7) ?_
    refine Runs.sN 1 (c' := (93, [.ref 75, .int x1, .int x2, .ref 80, .int x4, .int x5, .int x6], [], (zS (up2 (up2 (up2 I 78 5 x5) 78 6 (I 4 ((x1).toNatClampNeg))) 78 7 (I 5 ((x1).toNatClampNeg))) J tg))) rfl ?_
    subst h
    exact Runs.rt rfl
  · rw [if_neg c5] at h
    refine Runs.brF (P := x5 ≤ x6) (a := 53) (b := 28) (L := [.ref 75, .int x1, .int x2, .ref 80, .int x4, .int x5, .int x6]) (S := []) (z := (zS I J tg)) rfl c5 ?_
    refine Runs.sN 6 (c' := (38, [.ref 75, .int x1, .int x2, .ref 80, .int x4, .int x5, .int x6], [.int (x4 + x6), .ref 80, .ref 78], (zS I J tg))) rfl ?_
    obtain ⟨c8, h⟩ := h
    refine Runs.to (c' := (39, [.ref 75, .int x1, .int x2, .ref 80, .int x4, .int x5, .int x6], [.int (I 80 ((x4 + x6).toNatClampNeg)), .ref 78], (zS I J tg))) (Runs.ild rfl (show (80 : Nat) < 114 by decide) rfl c8) ?_
    obtain ⟨v1, I2, J3, tg4, c9, h⟩ := h
    refine Runs.cl (cm := 170) (as := [.int (I 80 ((x4 + x6).toNatClampNeg))]) (rest := [.ref 78]) (r1 := ((some (.int v1)), (zS I2 J3 tg4))) rfl (Nat.le_of_ble_eq_true rfl) c9 ?_
    refine Runs.as (c' := (42, [.ref 75, .int x1, .int x2, .ref 80, .int x4, .int x5, .int x6], [.int v1, .ref 78], (zS I2 J3 tg4))) rfl ?_
    refine Runs.sN 1 (c' := (43, [.ref 75, .int x1, .int x2, .ref 80, .int x4, .int x5, .int x6], [.int v1, .ref 78, .int v1, .ref 78], (zS I2 J3 tg4))) rfl ?_
    obtain ⟨c10, h⟩ := h
    refine Runs.to (c' := (44, [.ref 75, .int x1, .int x2, .ref 80, .int x4, .int x5, .int x6], [.int (I2 78 ((v1).toNatClampNeg)), .int v1, .ref 78], (zS I2 J3 tg4))) (Runs.ild rfl (show (78 : Nat) < 114 by decide) rfl c10) ?_
    refine Runs.sN 2 (c' := (46, [.ref 75, .int x1, .int x2, .ref 80, .int x4, .int x5, .int x6], [.int ((I2 78 ((v1).toNatClampNeg)) + 1), .int v1, .ref 78], (zS I2 J3 tg4))) rfl ?_
    obtain ⟨c11, h⟩ := h
    refine Runs.to (c' := (47, [.ref 75, .int x1, .int x2, .ref 80, .int x4, .int x5, .int x6], [], (zS (up2 I2 78 ((v1).toNatClampNeg) ((I2 78 ((v1).toNatClampNeg)) + 1)) J3 tg4))) (Runs.ist rfl (show (78 : Nat) < 114 by decide) rfl c11) ?_
    refine Runs.sN 2 (c' := (21, [.ref 75, .int x1, .int x2, .ref 80, .int x4, .int x5, .int (x6 + 1)], [], (zS (up2 I2 78 ((v1).toNatClampNeg) ((I2 78 ((v1).toNatClampNeg)) + 1)) J3 tg4))) rfl ?_
    exact h
-- X9_take 
theorem sg_100 {L d : Nat} {xs : Nat → Int32} (I : Nat → Nat → Int32) (J : Nat → Nat → Int64) (tg : Option Nat) (a1 : Int32) {r : Option Value × SS} (h : (∃ (v5 : Int32) (I6 : Nat → Nat → Int32) (J7 : Nat → Nat → Int64) (tg8 : Option Nat), Runs (GW L xs) d 113 (0, [.ref 7, .ref 77, .int 0, .int a1, .int 0, vU, vU, vU, vU], [], (zS I J tg)) ((some (.int v5)), (zS I6 J7 tg8)) ∧ r = (some (.int v5), (zS I6 J7 tg8)))) : Runs (GW L xs) (d + 1) 100 (0, [.ref 75, .int a1], [], (zS I J tg)) r := by
  refine Runs.sN 7 (c' := (11, [.ref 75, .int a1], [.int 0, .int a1, .int 0, .ref 77, .ref 7], (zS I J tg))) rfl ?_
  obtain ⟨v5, I6, J7, tg8, c9, h⟩ := h
  refine Runs.cl (cm := 113) (as := [.ref 7, .ref 77, .int 0, .int a1, .int 0]) (rest := []) (r1 := ((some (.int v5)), (zS I6 J7 tg8))) rfl (Nat.le_of_ble_eq_true rfl) c9 ?_
  refine Runs.as (c' := (14, [.ref 75, .int a1], [.int v5], (zS I6 J7 tg8))) rfl ?_
  subst h
  exact Runs.rt rfl
-- X9_isLearnt 
theorem sg_101 {L d : Nat} {xs : Nat → Int32} (I : Nat → Nat → Int32) (J : Nat → Nat → Int64) (tg : Option Nat) (a1 : Int32) {r : Option Value × SS} (h : ((if a1 = (-1) then (r = (some (.int 0), (zS I J tg))) else (¬ ((((I 75 8) * 6) + a1) < 0 ∨ 72 ≤ (((I 75 8) * 6) + a1).toNatClampNeg) ∧ (if (I 12 ((((I 75 8) * 6) + a1).toNatClampNeg)) < 500 then (r = (some (.int 0), (zS I J tg))) else (r = (some (.int 1), (zS I J tg)))))))) : Runs (GW L xs) d 101 (0, [.ref 75, .int a1], [], (zS I J tg)) r := by
  refine Runs.sN 2 (c' := (2, [.ref 75, .int a1], [.int (-1), .int a1], (zS I J tg))) rfl ?_
  by_cases c1 : a1 = (-1)
  · rw [if_pos c1] at h
    refine Runs.brT (P := a1 = (-1)) (a := 32) (b := 5) (L := [.ref 75, .int a1]) (S := []) (z := (zS I J tg)) rfl c1 ?_
    refine Runs.sN 1 (c' := (33, [.ref 75, .int a1], [.int 0], (zS I J tg))) rfl ?_
    subst h
    exact Runs.rt rfl
  · rw [if_neg c1] at h
    refine Runs.brF (P := a1 = (-1)) (a := 32) (b := 5) (L := [.ref 75, .int a1]) (S := []) (z := (zS I J tg)) rfl c1 ?_
    refine Runs.sN 9 (c' := (21, [.ref 75, .int a1], [.int (((I 75 8) * 6) + a1), .ref 12], (zS I J tg))) rfl ?_
    obtain ⟨c2, h⟩ := h
    refine Runs.to (c' := (22, [.ref 75, .int a1], [.int (I 12 ((((I 75 8) * 6) + a1).toNatClampNeg))], (zS I J tg))) (Runs.ild rfl (show (12 : Nat) < 114 by decide) rfl c2) ?_
    refine Runs.sN 1 (c' := (25, [.ref 75, .int a1], [.int 500, .int (I 12 ((((I 75 8) * 6) + a1).toNatClampNeg))], (zS I J tg))) rfl ?_
    by_cases c3 : (I 12 ((((I 75 8) * 6) + a1).toNatClampNeg)) < 500
    · rw [if_pos c3] at h
      refine Runs.brT (P := (I 12 ((((I 75 8) * 6) + a1).toNatClampNeg)) < 500) (a := 32) (b := 28) (L := [.ref 75, .int a1]) (S := []) (z := (zS I J tg)) rfl c3 ?_
      refine Runs.sN 1 (c' := (33, [.ref 75, .int a1], [.int 0], (zS I J tg))) rfl ?_
      subst h
      exact Runs.rt rfl
    · rw [if_neg c3] at h
      refine Runs.brF (P := (I 12 ((((I 75 8) * 6) + a1).toNatClampNeg)) < 500) (a := 32) (b := 28) (L := [.ref 75, .int a1]) (S := []) (z := (zS I J tg)) rfl c3 ?_
      refine Runs.sN 2 (c' := (33, [.ref 75, .int a1], [.int 1], (zS I J tg))) rfl ?_
      subst h
      exact Runs.rt rfl
-- X9_goal 
theorem sg_102 {L d : Nat} {xs : Nat → Int32} (I : Nat → Nat → Int32) (J : Nat → Nat → Int64) (tg : Option Nat) {r : Option Value × SS} (h : (¬ ((I 75 8) < 0 ∨ 12 ≤ (I 75 8).toNatClampNeg) ∧ (if (I 75 10) = (I 6 ((I 75 8).toNatClampNeg)) then (¬ ((I 75 8) < 0 ∨ 12 ≤ (I 75 8).toNatClampNeg) ∧ r = (some (.int (I 5 ((I 75 8).toNatClampNeg))), (zS I J tg))) else (r = (some (.int (-1)), (zS I J tg)))))) : Runs (GW L xs) d 102 (0, [.ref 75], [], (zS I J tg)) r := by
  refine Runs.sN 7 (c' := (15, [.ref 75], [.int (I 75 8), .ref 6, .int (I 75 10)], (zS I J tg))) rfl ?_
  obtain ⟨c1, h⟩ := h
  refine Runs.to (c' := (16, [.ref 75], [.int (I 6 ((I 75 8).toNatClampNeg)), .int (I 75 10)], (zS I J tg))) (Runs.zld rfl (show (6 : Nat) < 114 by decide) rfl c1) ?_
  by_cases c2 : (I 75 10) = (I 6 ((I 75 8).toNatClampNeg))
  · rw [if_pos c2] at h
    refine Runs.brT (P := (I 75 10) = (I 6 ((I 75 8).toNatClampNeg))) (a := 19) (b := 34) (L := [.ref 75]) (S := []) (z := (zS I J tg)) rfl c2 ?_
    refine Runs.sN 5 (c' := (30, [.ref 75], [.int (I 75 8), .ref 5], (zS I J tg))) rfl ?_
    obtain ⟨c3, h⟩ := h
    refine Runs.to (c' := (31, [.ref 75], [.int (I 5 ((I 75 8).toNatClampNeg))], (zS I J tg))) (Runs.ild rfl (show (5 : Nat) < 114 by decide) rfl c3) ?_
    refine Runs.sN 1 (c' := (35, [.ref 75], [.int (I 5 ((I 75 8).toNatClampNeg))], (zS I J tg))) rfl ?_
    subst h
    exact Runs.rt rfl
  · rw [if_neg c2] at h
    refine Runs.brF (P := (I 75 10) = (I 6 ((I 75 8).toNatClampNeg))) (a := 19) (b := 34) (L := [.ref 75]) (S := []) (z := (zS I J tg)) rfl c2 ?_
    refine Runs.sN 1 (c' := (35, [.ref 75], [.int (-1)], (zS I J tg))) rfl ?_
    subst h
    exact Runs.rt rfl
-- X9_isRight 
theorem sg_103 {L d : Nat} {xs : Nat → Int32} (I : Nat → Nat → Int32) (J : Nat → Nat → Int64) (tg : Option Nat) (a1 : Int32) (a2 : Int32) {r : Option Value × SS} (h : (∃ (v9 : Int32) (I10 : Nat → Nat → Int32) (J11 : Nat → Nat → Int64) (tg12 : Option Nat), Runs (GW L xs) d 101 (0, [.ref 75, .int a1], [], (zS I J tg)) ((some (.int v9)), (zS I10 J11 tg12)) ∧ (if v9 = 0 then ((if a2 = (-1) then (r = (some (.int 0), (zS I10 J11 tg12))) else (∃ (v13 : Int32) (I14 : Nat → Nat → Int32) (J15 : Nat → Nat → Int64) (tg16 : Option Nat), Runs (GW L xs) d 102 (0, [.ref 75], [], (zS I10 J11 tg12)) ((some (.int v13)), (zS I14 J15 tg16)) ∧ (if a2 = v13 then (r = (some (.int 1), (zS I14 J15 tg16))) else (r = (some (.int 0), (zS I14 J15 tg16))))))) else (r = (some (.int 1), (zS I10 J11 tg12)))))) : Runs (GW L xs) (d + 1) 103 (0, [.ref 75, .int a1, .int a2], [], (zS I J tg)) r := by
  refine Runs.sN 2 (c' := (2, [.ref 75, .int a1, .int a2], [.int a1, .ref 75], (zS I J tg))) rfl ?_
  obtain ⟨v9, I10, J11, tg12, c17, h⟩ := h
  refine Runs.cl (cm := 101) (as := [.ref 75, .int a1]) (rest := []) (r1 := ((some (.int v9)), (zS I10 J11 tg12))) rfl (Nat.le_of_ble_eq_true rfl) c17 ?_
  refine Runs.as (c' := (5, [.ref 75, .int a1, .int a2], [.int v9], (zS I10 J11 tg12))) rfl ?_
  by_cases c18 : v9 = 0
  · rw [if_pos c18] at h
    refine Runs.brT (P := v9 = 0) (a := 8) (b := 21) (L := [.ref 75, .int a1, .int a2]) (S := []) (z := (zS I10 J11 tg12)) rfl c18 ?_
    refine Runs.sN 2 (c' := (10, [.ref 75, .int a1, .int a2], [.int (-1), .int a2], (zS I10 J11 tg12))) rfl ?_
    by_cases c19 : a2 = (-1)
    · rw [if_pos c19] at h
      refine Runs.brT (P := a2 = (-1)) (a := 25) (b := 13) (L := [.ref 75, .int a1, .int a2]) (S := []) (z := (zS I10 J11 tg12)) rfl c19 ?_
      refine Runs.sN 1 (c' := (26, [.ref 75, .int a1, .int a2], [.int 0], (zS I10 J11 tg12))) rfl ?_
      subst h
      exact Runs.rt rfl
    · rw [if_neg c19] at h
      refine Runs.brF (P := a2 = (-1)) (a := 25) (b := 13) (L := [.ref 75, .int a1, .int a2]) (S := []) (z := (zS I10 J11 tg12)) rfl c19 ?_
      refine Runs.sN 2 (c' := (15, [.ref 75, .int a1, .int a2], [.ref 75, .int a2], (zS I10 J11 tg12))) rfl ?_
      obtain ⟨v13, I14, J15, tg16, c20, h⟩ := h
      refine Runs.cl (cm := 102) (as := [.ref 75]) (rest := [.int a2]) (r1 := ((some (.int v13)), (zS I14 J15 tg16))) rfl (Nat.le_of_ble_eq_true rfl) c20 ?_
      refine Runs.as (c' := (18, [.ref 75, .int a1, .int a2], [.int v13, .int a2], (zS I14 J15 tg16))) rfl ?_
      by_cases c21 : a2 = v13
      · rw [if_pos c21] at h
        refine Runs.brT (P := a2 = v13) (a := 21) (b := 25) (L := [.ref 75, .int a1, .int a2]) (S := []) (z := (zS I14 J15 tg16)) rfl c21 ?_
        refine Runs.sN 2 (c' := (26, [.ref 75, .int a1, .int a2], [.int 1], (zS I14 J15 tg16))) rfl ?_
        subst h
        exact Runs.rt rfl
      · rw [if_neg c21] at h
        refine Runs.brF (P := a2 = v13) (a := 21) (b := 25) (L := [.ref 75, .int a1, .int a2]) (S := []) (z := (zS I14 J15 tg16)) rfl c21 ?_
        refine Runs.sN 1 (c' := (26, [.ref 75, .int a1, .int a2], [.int 0], (zS I14 J15 tg16))) rfl ?_
        subst h
        exact Runs.rt rfl
  · rw [if_neg c18] at h
    refine Runs.brF (P := v9 = 0) (a := 8) (b := 21) (L := [.ref 75, .int a1, .int a2]) (S := []) (z := (zS I10 J11 tg12)) rfl c18 ?_
    refine Runs.sN 2 (c' := (26, [.ref 75, .int a1, .int a2], [.int 1], (zS I10 J11 tg12))) rfl ?_
    subst h
    exact Runs.rt rfl
-- X9_allHarm 
theorem sg_105 {L d : Nat} {xs : Nat → Int32} (I : Nat → Nat → Int32) (J : Nat → Nat → Int64) (tg : Option Nat) {r : Option Value × SS} (h : (Runs (GW L xs) (d + 1) 105 (4, [.ref 75, .int 0, .int 0], [], (zS I J tg)) r)) : Runs (GW L xs) (d + 1) 105 (0, [.ref 75, vU, vU], [], (zS I J tg)) r := by
  refine Runs.sN 4 (c' := (4, [.ref 75, .int 0, .int 0], [], (zS I J tg))) rfl ?_
  exact h
theorem sg_105_4 {L d : Nat} {xs : Nat → Int32} (I : Nat → Nat → Int32) (J : Nat → Nat → Int64) (tg : Option Nat) (x1 : Int32) (x2 : Int32) {r : Option Value × SS} (h : ((if 6 ≤ x2 then (r = (some (.int x1), (zS I J tg))) else (¬ (x2 < 0 ∨ 6 ≤ (x2).toNatClampNeg) ∧ (if (I 8 ((x2).toNatClampNeg)) ≤ 0 then (Runs (GW L xs) (d + 1) 105 (4, [.ref 75, .int x1, .int (x2 + 1)], [], (zS I J tg)) r) else (¬ (x2 < 0 ∨ 6 ≤ (x2).toNatClampNeg) ∧ ¬ (x2 < 0 ∨ 6 ≤ (x2).toNatClampNeg) ∧ ∃ (v1 : Int32) (I2 : Nat → Nat → Int32) (J3 : Nat → Nat → Int64) (tg4 : Option Nat), Runs (GW L xs) d 100 (0, [.ref 75, .int (I 9 ((x2).toNatClampNeg))], [], (zS I J tg)) ((some (.int v1)), (zS I2 J3 tg4)) ∧ ∃ (v5 : Int32) (I6 : Nat → Nat → Int32) (J7 : Nat → Nat → Int64) (tg8 : Option Nat), Runs (GW L xs) d 104 (0, [.ref 75, .int x2, .int v1, vU], [], (zS I2 J3 tg4)) ((some (.int v5)), (zS I6 J7 tg8)) ∧ Runs (GW L xs) (d + 1) 105 (4, [.ref 75, .int (x1 + ((I 8 ((x2).toNatClampNeg)) * v5)), .int (x2 + 1)], [], (zS I6 J7 tg8)) r)))))) : Runs (GW L xs) (d + 1) 105 (4, [.ref 75, .int x1, .int x2], [], (zS I J tg)) r := by
  refine Runs.sN 2 (c' := (7, [.ref 75, .int x1, .int x2], [.int 6, .int x2], (zS I J tg))) rfl ?_
  by_cases c9 : 6 ≤ x2
  · rw [if_pos c9] at h
    refine Runs.brT (P := 6 ≤ x2) (a := 59) (b := 10) (L := [.ref 75, .int x1, .int x2]) (S := []) (z := (zS I J tg)) rfl c9 ?_
    refine Runs.sN 1 (c' := (60, [.ref 75, .int x1, .int x2], [.int x1], (zS I J tg))) rfl ?_
    subst h
    exact Runs.rt rfl
  · rw [if_neg c9] at h
    refine Runs.brF (P := 6 ≤ x2) (a := 59) (b := 10) (L := [.ref 75, .int x1, .int x2]) (S := []) (z := (zS I J tg)) rfl c9 ?_
    refine Runs.sN 4 (c' := (18, [.ref 75, .int x1, .int x2], [.int x2, .ref 8], (zS I J tg))) rfl ?_
    obtain ⟨c10, h⟩ := h
    refine Runs.to (c' := (19, [.ref 75, .int x1, .int x2], [.int (I 8 ((x2).toNatClampNeg))], (zS I J tg))) (Runs.ild rfl (show (8 : Nat) < 114 by decide) rfl c10) ?_
    by_cases c11 : (I 8 ((x2).toNatClampNeg)) ≤ 0
    · rw [if_pos c11] at h
      refine Runs.brT (P := (I 8 ((x2).toNatClampNeg)) ≤ 0) (a := 53) (b := 22) (L := [.ref 75, .int x1, .int x2]) (S := []) (z := (zS I J tg)) rfl c11 ?_
      refine Runs.sN 2 (c' := (4, [.ref 75, .int x1, .int (x2 + 1)], [], (zS I J tg))) rfl ?_
      exact h
    · rw [if_neg c11] at h
      refine Runs.brF (P := (I 8 ((x2).toNatClampNeg)) ≤ 0) (a := 53) (b := 22) (L := [.ref 75, .int x1, .int x2]) (S := []) (z := (zS I J tg)) rfl c11 ?_
      refine Runs.sN 5 (c' := (31, [.ref 75, .int x1, .int x2], [.int x2, .ref 8, .int x1], (zS I J tg))) rfl ?_
      obtain ⟨c12, h⟩ := h
      refine Runs.to (c' := (32, [.ref 75, .int x1, .int x2], [.int (I 8 ((x2).toNatClampNeg)), .int x1], (zS I J tg))) (Runs.ild rfl (show (8 : Nat) < 114 by decide) rfl c12) ?_
      refine Runs.sN 7 (c' := (43, [.ref 75, .int x1, .int x2], [.int x2, .ref 9, .ref 75, .int x2, .ref 75, .int (I 8 ((x2).toNatClampNeg)), .int x1], (zS I J tg))) rfl ?_
      obtain ⟨c13, h⟩ := h
      refine Runs.to (c' := (44, [.ref 75, .int x1, .int x2], [.int (I 9 ((x2).toNatClampNeg)), .ref 75, .int x2, .ref 75, .int (I 8 ((x2).toNatClampNeg)), .int x1], (zS I J tg))) (Runs.ild rfl (show (9 : Nat) < 114 by decide) rfl c13) ?_
      obtain ⟨v1, I2, J3, tg4, c14, h⟩ := h
      refine Runs.cl (cm := 100) (as := [.ref 75, .int (I 9 ((x2).toNatClampNeg))]) (rest := [.int x2, .ref 75, .int (I 8 ((x2).toNatClampNeg)), .int x1]) (r1 := ((some (.int v1)), (zS I2 J3 tg4))) rfl (Nat.le_of_ble_eq_true rfl) c14 ?_
      refine Runs.as (c' := (47, [.ref 75, .int x1, .int x2], [.int v1, .int x2, .ref 75, .int (I 8 ((x2).toNatClampNeg)), .int x1], (zS I2 J3 tg4))) rfl ?_
      obtain ⟨v5, I6, J7, tg8, c15, h⟩ := h
      refine Runs.cl (cm := 104) (as := [.ref 75, .int x2, .int v1]) (rest := [.int (I 8 ((x2).toNatClampNeg)), .int x1]) (r1 := ((some (.int v5)), (zS I6 J7 tg8))) rfl (Nat.le_of_ble_eq_true rfl) c15 ?_
      refine Runs.as (c' := (50, [.ref 75, .int x1, .int x2], [.int v5, .int (I 8 ((x2).toNatClampNeg)), .int x1], (zS I6 J7 tg8))) rfl ?_
      refine Runs.sN 5 (c' := (4, [.ref 75, .int (x1 + ((I 8 ((x2).toNatClampNeg)) * v5)), .int (x2 + 1)], [], (zS I6 J7 tg8))) rfl ?_
      exact h
-- X9_rightShares 
theorem sg_106 {L d : Nat} {xs : Nat → Int32} (I : Nat → Nat → Int32) (J : Nat → Nat → Int64) (tg : Option Nat) {r : Option Value × SS} (h : (Runs (GW L xs) (d + 1) 106 (4, [.ref 75, .int 0, .int 0], [], (zS I J tg)) r)) : Runs (GW L xs) (d + 1) 106 (0, [.ref 75, vU, vU], [], (zS I J tg)) r := by
  refine Runs.sN 4 (c' := (4, [.ref 75, .int 0, .int 0], [], (zS I J tg))) rfl ?_
  exact h
theorem sg_106_4 {L d : Nat} {xs : Nat → Int32} (I : Nat → Nat → Int32) (J : Nat → Nat → Int64) (tg : Option Nat) (x1 : Int32) (x2 : Int32) {r : Option Value × SS} (h : ((if 6 ≤ x2 then (r = (some (.int x1), (zS I J tg))) else (¬ (x2 < 0 ∨ 6 ≤ (x2).toNatClampNeg) ∧ (if (I 8 ((x2).toNatClampNeg)) ≤ 0 then (Runs (GW L xs) (d + 1) 106 (4, [.ref 75, .int x1, .int (x2 + 1)], [], (zS I J tg)) r) else (¬ (x2 < 0 ∨ 6 ≤ (x2).toNatClampNeg) ∧ ∃ (v1 : Int32) (I2 : Nat → Nat → Int32) (J3 : Nat → Nat → Int64) (tg4 : Option Nat), Runs (GW L xs) d 100 (0, [.ref 75, .int (I 9 ((x2).toNatClampNeg))], [], (zS I J tg)) ((some (.int v1)), (zS I2 J3 tg4)) ∧ ∃ (v5 : Int32) (I6 : Nat → Nat → Int32) (J7 : Nat → Nat → Int64) (tg8 : Option Nat), Runs (GW L xs) d 103 (0, [.ref 75, .int x2, .int v1], [], (zS I2 J3 tg4)) ((some (.int v5)), (zS I6 J7 tg8)) ∧ (if v5 = 0 then (Runs (GW L xs) (d + 1) 106 (4, [.ref 75, .int x1, .int (x2 + 1)], [], (zS I6 J7 tg8)) r) else (¬ (x2 < 0 ∨ 6 ≤ (x2).toNatClampNeg) ∧ Runs (GW L xs) (d + 1) 106 (4, [.ref 75, .int (x1 + (I6 8 ((x2).toNatClampNeg))), .int (x2 + 1)], [], (zS I6 J7 tg8)) r)))))))) : Runs (GW L xs) (d + 1) 106 (4, [.ref 75, .int x1, .int x2], [], (zS I J tg)) r := by
  refine Runs.sN 2 (c' := (7, [.ref 75, .int x1, .int x2], [.int 6, .int x2], (zS I J tg))) rfl ?_
  by_cases c9 : 6 ≤ x2
  · rw [if_pos c9] at h
    refine Runs.brT (P := 6 ≤ x2) (a := 61) (b := 10) (L := [.ref 75, .int x1, .int x2]) (S := []) (z := (zS I J tg)) rfl c9 ?_
    refine Runs.sN 1 (c' := (62, [.ref 75, .int x1, .int x2], [.int x1], (zS I J tg))) rfl ?_
    subst h
    exact Runs.rt rfl
  · rw [if_neg c9] at h
    refine Runs.brF (P := 6 ≤ x2) (a := 61) (b := 10) (L := [.ref 75, .int x1, .int x2]) (S := []) (z := (zS I J tg)) rfl c9 ?_
    refine Runs.sN 4 (c' := (18, [.ref 75, .int x1, .int x2], [.int x2, .ref 8], (zS I J tg))) rfl ?_
    obtain ⟨c10, h⟩ := h
    refine Runs.to (c' := (19, [.ref 75, .int x1, .int x2], [.int (I 8 ((x2).toNatClampNeg))], (zS I J tg))) (Runs.ild rfl (show (8 : Nat) < 114 by decide) rfl c10) ?_
    by_cases c11 : (I 8 ((x2).toNatClampNeg)) ≤ 0
    · rw [if_pos c11] at h
      refine Runs.brT (P := (I 8 ((x2).toNatClampNeg)) ≤ 0) (a := 55) (b := 22) (L := [.ref 75, .int x1, .int x2]) (S := []) (z := (zS I J tg)) rfl c11 ?_
      refine Runs.sN 2 (c' := (4, [.ref 75, .int x1, .int (x2 + 1)], [], (zS I J tg))) rfl ?_
      exact h
    · rw [if_neg c11] at h
      refine Runs.brF (P := (I 8 ((x2).toNatClampNeg)) ≤ 0) (a := 55) (b := 22) (L := [.ref 75, .int x1, .int x2]) (S := []) (z := (zS I J tg)) rfl c11 ?_
      refine Runs.sN 7 (c' := (33, [.ref 75, .int x1, .int x2], [.int x2, .ref 9, .ref 75, .int x2, .ref 75], (zS I J tg))) rfl ?_
      obtain ⟨c12, h⟩ := h
      refine Runs.to (c' := (34, [.ref 75, .int x1, .int x2], [.int (I 9 ((x2).toNatClampNeg)), .ref 75, .int x2, .ref 75], (zS I J tg))) (Runs.ild rfl (show (9 : Nat) < 114 by decide) rfl c12) ?_
      obtain ⟨v1, I2, J3, tg4, c13, h⟩ := h
      refine Runs.cl (cm := 100) (as := [.ref 75, .int (I 9 ((x2).toNatClampNeg))]) (rest := [.int x2, .ref 75]) (r1 := ((some (.int v1)), (zS I2 J3 tg4))) rfl (Nat.le_of_ble_eq_true rfl) c13 ?_
      refine Runs.as (c' := (37, [.ref 75, .int x1, .int x2], [.int v1, .int x2, .ref 75], (zS I2 J3 tg4))) rfl ?_
      obtain ⟨v5, I6, J7, tg8, c14, h⟩ := h
      refine Runs.cl (cm := 103) (as := [.ref 75, .int x2, .int v1]) (rest := []) (r1 := ((some (.int v5)), (zS I6 J7 tg8))) rfl (Nat.le_of_ble_eq_true rfl) c14 ?_
      refine Runs.as (c' := (40, [.ref 75, .int x1, .int x2], [.int v5], (zS I6 J7 tg8))) rfl ?_
      by_cases c15 : v5 = 0
      · rw [if_pos c15] at h
        refine Runs.brT (P := v5 = 0) (a := 55) (b := 43) (L := [.ref 75, .int x1, .int x2]) (S := []) (z := (zS I6 J7 tg8)) rfl c15 ?_
        refine Runs.sN 2 (c' := (4, [.ref 75, .int x1, .int (x2 + 1)], [], (zS I6 J7 tg8))) rfl ?_
        exact h
      · rw [if_neg c15] at h
        refine Runs.brF (P := v5 = 0) (a := 55) (b := 43) (L := [.ref 75, .int x1, .int x2]) (S := []) (z := (zS I6 J7 tg8)) rfl c15 ?_
        refine Runs.sN 5 (c' := (52, [.ref 75, .int x1, .int x2], [.int x2, .ref 8, .int x1], (zS I6 J7 tg8))) rfl ?_
        obtain ⟨c16, h⟩ := h
        refine Runs.to (c' := (53, [.ref 75, .int x1, .int x2], [.int (I6 8 ((x2).toNatClampNeg)), .int x1], (zS I6 J7 tg8))) (Runs.ild rfl (show (8 : Nat) < 114 by decide) rfl c16) ?_
        refine Runs.sN 4 (c' := (4, [.ref 75, .int (x1 + (I6 8 ((x2).toNatClampNeg))), .int (x2 + 1)], [], (zS I6 J7 tg8))) rfl ?_
        exact h
-- X9_seekWorst 
theorem sg_107 {L d : Nat} {xs : Nat → Int32} (I : Nat → Nat → Int32) (J : Nat → Nat → Int64) (tg : Option Nat) (a1 : Int32) (a2 : Int32) (a3 : Int32) {r : Option Value × SS} (h : (∃ (I35 : Nat → Nat → Int32) (J36 : Nat → Nat → Int64) (tg37 : Option Nat), Runs (GW L xs) d 92 (0, [.ref 75, .int a1, .int a2, vU], [], (zS I J tg)) (none, (zS I35 J36 tg37)) ∧ ∃ (I38 : Nat → Nat → Int32) (J39 : Nat → Nat → Int64) (tg40 : Option Nat), Runs (GW L xs) d 93 (0, [.ref 75, .int a1, .int a2], [], (zS I35 J36 tg37)) (none, (zS I38 J39 tg40)) ∧ ∃ (I41 : Nat → Nat → Int32) (J42 : Nat → Nat → Int64) (tg43 : Option Nat), Runs (GW L xs) d 301 (0, [.ref 76, .int (-1), vU, vU], [], (zS I38 J39 tg40)) (none, (zS I41 J42 tg43)) ∧ Runs (GW L xs) (d + 1) 107 (28, [.ref 75, .int a1, .int a2, .int a3, .int 0, vU], [], (zS (up2 I41 75 11 (-1)) J42 tg43)) r)) : Runs (GW L xs) (d + 1) 107 (0, [.ref 75, .int a1, .int a2, .int a3, vU, vU], [], (zS I J tg)) r := by
  refine Runs.sN 3 (c' := (3, [.ref 75, .int a1, .int a2, .int a3, vU, vU], [.int a2, .int a1, .ref 75], (zS I J tg))) rfl ?_
  obtain ⟨I35, J36, tg37, c44, h⟩ := h
  refine Runs.cl (cm := 92) (as := [.ref 75, .int a1, .int a2]) (rest := []) (r1 := (none, (zS I35 J36 tg37))) rfl (Nat.le_of_ble_eq_true rfl) c44 ?_
  refine Runs.as (c' := (6, [.ref 75, .int a1, .int a2, .int a3, vU, vU], [], (zS I35 J36 tg37))) rfl ?_
  refine Runs.sN 3 (c' := (9, [.ref 75, .int a1, .int a2, .int a3, vU, vU], [.int a2, .int a1, .ref 75], (zS I35 J36 tg37))) rfl ?_
  obtain ⟨I38, J39, tg40, c45, h⟩ := h
  refine Runs.cl (cm := 93) (as := [.ref 75, .int a1, .int a2]) (rest := []) (r1 := (none, (zS I38 J39 tg40))) rfl (Nat.le_of_ble_eq_true rfl) c45 ?_
  refine Runs.as (c' := (12, [.ref 75, .int a1, .int a2, .int a3, vU, vU], [], (zS I38 J39 tg40))) rfl ?_
  refine Runs.sN 3 (c' := (17, [.ref 75, .int a1, .int a2, .int a3, vU, vU], [.int (-1), .ref 76], (zS I38 J39 tg40))) rfl ?_
  obtain ⟨I41, J42, tg43, c46, h⟩ := h
  refine Runs.cl (cm := 301) (as := [.ref 76, .int (-1)]) (rest := []) (r1 := (none, (zS I41 J42 tg43))) rfl (Nat.le_of_ble_eq_true rfl) c46 ?_
  refine Runs.as (c' := (20, [.ref 75, .int a1, .int a2, .int a3, vU, vU], [], (zS I41 J42 tg43))) rfl ?_
  refine Runs.sN 5 (c' := (28, [.ref 75, .int a1, .int a2, .int a3, .int 0, vU], [], (zS (up2 I41 75 11 (-1)) J42 tg43))) rfl ?_
  exact h
theorem sg_107_28 {L d : Nat} {xs : Nat → Int32} (I : Nat → Nat → Int32) (J : Nat → Nat → Int64) (tg : Option Nat) (x1 : Int32) (x2 : Int32) (x3 : Int32) (x4 : Int32) {r : Option Value × SS} (h : (∃ (v1 : Int32) (I2 : Nat → Nat → Int32) (J3 : Nat → Nat → Int64) (tg4 : Option Nat), Runs (GW L xs) d 48 (0, [.ref 1], [], (zS I J tg)) ((some (.int v1)), (zS I2 J3 tg4)) ∧ (if v1 < x4 then (r = (none, (zS I2 J3 tg4))) else (∃ (v5 : Int32) (I6 : Nat → Nat → Int32) (J7 : Nat → Nat → Int64) (tg8 : Option Nat), Runs (GW L xs) d 300 (0, [.int x4], [], (zS I2 J3 tg4)) ((some (.int v5)), (zS I6 J7 tg8)) ∧ (if v5 = x3 then (∃ (v9 : Int32) (I10 : Nat → Nat → Int32) (J11 : Nat → Nat → Int64) (tg12 : Option Nat), Runs (GW L xs) d 100 (0, [.ref 75, .int x4], [], (zS I6 J7 tg8)) ((some (.int v9)), (zS I10 J11 tg12)) ∧ ¬ ((v9 + 1) < 0 ∨ 13 ≤ (v9 + 1).toNatClampNeg) ∧ (if (I10 76 ((v9 + 1).toNatClampNeg)) = (-1) then (∃ (v13 : Int32) (I14 : Nat → Nat → Int32) (J15 : Nat → Nat → Int64) (tg16 : Option Nat), Runs (GW L xs) d 104 (0, [.ref 75, .int (-1), .int v9, vU], [], (zS I10 J11 tg12)) ((some (.int v13)), (zS I14 J15 tg16)) ∧ ¬ ((v9 + 1) < 0 ∨ 13 ≤ (v9 + 1).toNatClampNeg) ∧ ¬ ((v9 + 1) < 0 ∨ 13 ≤ (v9 + 1).toNatClampNeg) ∧ (if ((up2 I14 76 ((v9 + 1).toNatClampNeg) v13) 76 ((v9 + 1).toNatClampNeg)) ≤ (I14 75 11) then (Runs (GW L xs) (d + 1) 107 (28, [.ref 75, .int x1, .int x2, .int x3, .int (x4 + 1), vU], [], (zS (up2 I14 76 ((v9 + 1).toNatClampNeg) v13) J15 tg16)) r) else (¬ ((v9 + 1) < 0 ∨ 13 ≤ (v9 + 1).toNatClampNeg) ∧ Runs (GW L xs) (d + 1) 107 (28, [.ref 75, .int x1, .int x2, .int x3, .int (x4 + 1), vU], [], (zS (up2 (up2 (up2 I14 76 ((v9 + 1).toNatClampNeg) v13) 75 11 ((up2 I14 76 ((v9 + 1).toNatClampNeg) v13) 76 ((v9 + 1).toNatClampNeg))) 75 12 x4) J15 tg16)) r))) else (¬ ((v9 + 1) < 0 ∨ 13 ≤ (v9 + 1).toNatClampNeg) ∧ (if (I10 76 ((v9 + 1).toNatClampNeg)) ≤ (I10 75 11) then (Runs (GW L xs) (d + 1) 107 (28, [.ref 75, .int x1, .int x2, .int x3, .int (x4 + 1), vU], [], (zS I10 J11 tg12)) r) else (¬ ((v9 + 1) < 0 ∨ 13 ≤ (v9 + 1).toNatClampNeg) ∧ Runs (GW L xs) (d + 1) 107 (28, [.ref 75, .int x1, .int x2, .int x3, .int (x4 + 1), vU], [], (zS (up2 (up2 I10 75 11 (I10 76 ((v9 + 1).toNatClampNeg))) 75 12 x4) J11 tg12)) r))))) else (Runs (GW L xs) (d + 1) 107 (28, [.ref 75, .int x1, .int x2, .int x3, .int (x4 + 1), vU], [], (zS I6 J7 tg8)) r)))))) : Runs (GW L xs) (d + 1) 107 (28, [.ref 75, .int x1, .int x2, .int x3, .int x4, vU], [], (zS I J tg)) r := by
  refine Runs.sN 3 (c' := (34, [.ref 75, .int x1, .int x2, .int x3, .int x4, vU], [.ref 1, .int x4], (zS I J tg))) rfl ?_
  obtain ⟨v1, I2, J3, tg4, c17, h⟩ := h
  refine Runs.cl (cm := 48) (as := [.ref 1]) (rest := [.int x4]) (r1 := ((some (.int v1)), (zS I2 J3 tg4))) rfl (Nat.le_of_ble_eq_true rfl) c17 ?_
  refine Runs.as (c' := (37, [.ref 75, .int x1, .int x2, .int x3, .int x4, vU], [.int v1, .int x4], (zS I2 J3 tg4))) rfl ?_
  by_cases c18 : v1 < x4
  · rw [if_pos c18] at h
    refine Runs.brT (P := v1 < x4) (a := 130) (b := 40) (L := [.ref 75, .int x1, .int x2, .int x3, .int x4, vU]) (S := []) (z := (zS I2 J3 tg4)) rfl c18 ?_
    subst h
    exact Runs.rt rfl
  · rw [if_neg c18] at h
    refine Runs.brF (P := v1 < x4) (a := 130) (b := 40) (L := [.ref 75, .int x1, .int x2, .int x3, .int x4, vU]) (S := []) (z := (zS I2 J3 tg4)) rfl c18 ?_
    refine Runs.sN 1 (c' := (42, [.ref 75, .int x1, .int x2, .int x3, .int x4, vU], [.int x4], (zS I2 J3 tg4))) rfl ?_
    obtain ⟨v5, I6, J7, tg8, c19, h⟩ := h
    refine Runs.cl (cm := 300) (as := [.int x4]) (rest := []) (r1 := ((some (.int v5)), (zS I6 J7 tg8))) rfl (Nat.le_of_ble_eq_true rfl) c19 ?_
    refine Runs.as (c' := (45, [.ref 75, .int x1, .int x2, .int x3, .int x4, vU], [.int v5], (zS I6 J7 tg8))) rfl ?_
    refine Runs.sN 1 (c' := (46, [.ref 75, .int x1, .int x2, .int x3, .int x4, vU], [.int x3, .int v5], (zS I6 J7 tg8))) rfl ?_
    by_cases c20 : v5 = x3
    · rw [if_pos c20] at h
      refine Runs.brT (P := v5 = x3) (a := 52) (b := 49) (L := [.ref 75, .int x1, .int x2, .int x3, .int x4, vU]) (S := []) (z := (zS I6 J7 tg8)) rfl c20 ?_
      refine Runs.sN 2 (c' := (55, [.ref 75, .int x1, .int x2, .int x3, .int x4, vU], [.int x4, .ref 75], (zS I6 J7 tg8))) rfl ?_
      obtain ⟨v9, I10, J11, tg12, c21, h⟩ := h
      refine Runs.cl (cm := 100) (as := [.ref 75, .int x4]) (rest := []) (r1 := ((some (.int v9)), (zS I10 J11 tg12))) rfl (Nat.le_of_ble_eq_true rfl) c21 ?_
      refine Runs.as (c' := (58, [.ref 75, .int x1, .int x2, .int x3, .int x4, vU], [.int v9], (zS I10 J11 tg12))) rfl ?_
      refine Runs.sN 6 (c' := (68, [.ref 75, .int x1, .int x2, .int x3, .int x4, .int v9], [.int (v9 + 1), .ref 76], (zS I10 J11 tg12))) rfl ?_
      obtain ⟨c22, h⟩ := h
      refine Runs.to (c' := (69, [.ref 75, .int x1, .int x2, .int x3, .int x4, .int v9], [.int (I10 76 ((v9 + 1).toNatClampNeg))], (zS I10 J11 tg12))) (Runs.ild rfl (show (76 : Nat) < 114 by decide) rfl c22) ?_
      refine Runs.sN 1 (c' := (70, [.ref 75, .int x1, .int x2, .int x3, .int x4, .int v9], [.int (-1), .int (I10 76 ((v9 + 1).toNatClampNeg))], (zS I10 J11 tg12))) rfl ?_
      by_cases c23 : (I10 76 ((v9 + 1).toNatClampNeg)) = (-1)
      · rw [if_pos c23] at h
        refine Runs.brT (P := (I10 76 ((v9 + 1).toNatClampNeg)) = (-1)) (a := 73) (b := 89) (L := [.ref 75, .int x1, .int x2, .int x3, .int x4, .int v9]) (S := []) (z := (zS I10 J11 tg12)) rfl c23 ?_
        refine Runs.sN 8 (c' := (85, [.ref 75, .int x1, .int x2, .int x3, .int x4, .int v9], [.int v9, .int (-1), .ref 75, .int (v9 + 1), .ref 76], (zS I10 J11 tg12))) rfl ?_
        obtain ⟨v13, I14, J15, tg16, c24, h⟩ := h
        refine Runs.cl (cm := 104) (as := [.ref 75, .int (-1), .int v9]) (rest := [.int (v9 + 1), .ref 76]) (r1 := ((some (.int v13)), (zS I14 J15 tg16))) rfl (Nat.le_of_ble_eq_true rfl) c24 ?_
        refine Runs.as (c' := (88, [.ref 75, .int x1, .int x2, .int x3, .int x4, .int v9], [.int v13, .int (v9 + 1), .ref 76], (zS I14 J15 tg16))) rfl ?_
        obtain ⟨c25, h⟩ := h
        refine Runs.to (c' := (89, [.ref 75, .int x1, .int x2, .int x3, .int x4, .int v9], [], (zS (up2 I14 76 ((v9 + 1).toNatClampNeg) v13) J15 tg16))) (Runs.ist rfl (show (76 : Nat) < 114 by decide) rfl c25) ?_
        refine Runs.sN 5 (c' := (97, [.ref 75, .int x1, .int x2, .int x3, .int x4, .int v9], [.int (v9 + 1), .ref 76], (zS (up2 I14 76 ((v9 + 1).toNatClampNeg) v13) J15 tg16))) rfl ?_
        obtain ⟨c26, h⟩ := h
        refine Runs.to (c' := (98, [.ref 75, .int x1, .int x2, .int x3, .int x4, .int v9], [.int ((up2 I14 76 ((v9 + 1).toNatClampNeg) v13) 76 ((v9 + 1).toNatClampNeg))], (zS (up2 I14 76 ((v9 + 1).toNatClampNeg) v13) J15 tg16))) (Runs.ild rfl (show (76 : Nat) < 114 by decide) rfl c26) ?_
        refine Runs.sN 2 (c' := (102, [.ref 75, .int x1, .int x2, .int x3, .int x4, .int v9], [.int (I14 75 11), .int ((up2 I14 76 ((v9 + 1).toNatClampNeg) v13) 76 ((v9 + 1).toNatClampNeg))], (zS (up2 I14 76 ((v9 + 1).toNatClampNeg) v13) J15 tg16))) rfl ?_
        by_cases c27 : ((up2 I14 76 ((v9 + 1).toNatClampNeg) v13) 76 ((v9 + 1).toNatClampNeg)) ≤ (I14 75 11)
        · rw [if_pos c27] at h
          refine Runs.brT (P := ((up2 I14 76 ((v9 + 1).toNatClampNeg) v13) 76 ((v9 + 1).toNatClampNeg)) ≤ (I14 75 11)) (a := 124) (b := 105) (L := [.ref 75, .int x1, .int x2, .int x3, .int x4, .int v9]) (S := []) (z := (zS (up2 I14 76 ((v9 + 1).toNatClampNeg) v13) J15 tg16)) rfl c27 ?_
          refine Runs.sN 2 (c' := (28, [.ref 75, .int x1, .int x2, .int x3, .int (x4 + 1), .int v9], [], (zS (up2 I14 76 ((v9 + 1).toNatClampNeg) v13) J15 tg16))) rfl ?_
          exact Runs.weak (L := [.ref 75, .int x1, .int x2, .int x3, .int (x4 + 1), vU]) (Lle.k (Lle.k (Lle.k (Lle.k (Lle.k (Lle.u Lle.n)))))) h
        · rw [if_neg c27] at h
          refine Runs.brF (P := ((up2 I14 76 ((v9 + 1).toNatClampNeg) v13) 76 ((v9 + 1).toNatClampNeg)) ≤ (I14 75 11)) (a := 124) (b := 105) (L := [.ref 75, .int x1, .int x2, .int x3, .int x4, .int v9]) (S := []) (z := (zS (up2 I14 76 ((v9 + 1).toNatClampNeg) v13) J15 tg16)) rfl c27 ?_
          refine Runs.sN 6 (c' := (114, [.ref 75, .int x1, .int x2, .int x3, .int x4, .int v9], [.int (v9 + 1), .ref 76, .ref 75], (zS (up2 I14 76 ((v9 + 1).toNatClampNeg) v13) J15 tg16))) rfl ?_
          obtain ⟨c28, h⟩ := h
          refine Runs.to (c' := (115, [.ref 75, .int x1, .int x2, .int x3, .int x4, .int v9], [.int ((up2 I14 76 ((v9 + 1).toNatClampNeg) v13) 76 ((v9 + 1).toNatClampNeg)), .ref 75], (zS (up2 I14 76 ((v9 + 1).toNatClampNeg) v13) J15 tg16))) (Runs.ild rfl (show (76 : Nat) < 114 by decide) rfl c28) ?_
          refine Runs.sN 6 (c' := (28, [.ref 75, .int x1, .int x2, .int x3, .int (x4 + 1), .int v9], [], (zS (up2 (up2 (up2 I14 76 ((v9 + 1).toNatClampNeg) v13) 75 11 ((up2 I14 76 ((v9 + 1).toNatClampNeg) v13) 76 ((v9 + 1).toNatClampNeg))) 75 12 x4) J15 tg16))) rfl ?_
          exact Runs.weak (L := [.ref 75, .int x1, .int x2, .int x3, .int (x4 + 1), vU]) (Lle.k (Lle.k (Lle.k (Lle.k (Lle.k (Lle.u Lle.n)))))) h
      · rw [if_neg c23] at h
        refine Runs.brF (P := (I10 76 ((v9 + 1).toNatClampNeg)) = (-1)) (a := 73) (b := 89) (L := [.ref 75, .int x1, .int x2, .int x3, .int x4, .int v9]) (S := []) (z := (zS I10 J11 tg12)) rfl c23 ?_
        refine Runs.sN 5 (c' := (97, [.ref 75, .int x1, .int x2, .int x3, .int x4, .int v9], [.int (v9 + 1), .ref 76], (zS I10 J11 tg12))) rfl ?_
        obtain ⟨c29, h⟩ := h
        refine Runs.to (c' := (98, [.ref 75, .int x1, .int x2, .int x3, .int x4, .int v9], [.int (I10 76 ((v9 + 1).toNatClampNeg))], (zS I10 J11 tg12))) (Runs.ild rfl (show (76 : Nat) < 114 by decide) rfl c29) ?_
        refine Runs.sN 2 (c' := (102, [.ref 75, .int x1, .int x2, .int x3, .int x4, .int v9], [.int (I10 75 11), .int (I10 76 ((v9 + 1).toNatClampNeg))], (zS I10 J11 tg12))) rfl ?_
        by_cases c30 : (I10 76 ((v9 + 1).toNatClampNeg)) ≤ (I10 75 11)
        · rw [if_pos c30] at h
          refine Runs.brT (P := (I10 76 ((v9 + 1).toNatClampNeg)) ≤ (I10 75 11)) (a := 124) (b := 105) (L := [.ref 75, .int x1, .int x2, .int x3, .int x4, .int v9]) (S := []) (z := (zS I10 J11 tg12)) rfl c30 ?_
          refine Runs.sN 2 (c' := (28, [.ref 75, .int x1, .int x2, .int x3, .int (x4 + 1), .int v9], [], (zS I10 J11 tg12))) rfl ?_
          exact Runs.weak (L := [.ref 75, .int x1, .int x2, .int x3, .int (x4 + 1), vU]) (Lle.k (Lle.k (Lle.k (Lle.k (Lle.k (Lle.u Lle.n)))))) h
        · rw [if_neg c30] at h
          refine Runs.brF (P := (I10 76 ((v9 + 1).toNatClampNeg)) ≤ (I10 75 11)) (a := 124) (b := 105) (L := [.ref 75, .int x1, .int x2, .int x3, .int x4, .int v9]) (S := []) (z := (zS I10 J11 tg12)) rfl c30 ?_
          refine Runs.sN 6 (c' := (114, [.ref 75, .int x1, .int x2, .int x3, .int x4, .int v9], [.int (v9 + 1), .ref 76, .ref 75], (zS I10 J11 tg12))) rfl ?_
          obtain ⟨c31, h⟩ := h
          refine Runs.to (c' := (115, [.ref 75, .int x1, .int x2, .int x3, .int x4, .int v9], [.int (I10 76 ((v9 + 1).toNatClampNeg)), .ref 75], (zS I10 J11 tg12))) (Runs.ild rfl (show (76 : Nat) < 114 by decide) rfl c31) ?_
          refine Runs.sN 6 (c' := (28, [.ref 75, .int x1, .int x2, .int x3, .int (x4 + 1), .int v9], [], (zS (up2 (up2 I10 75 11 (I10 76 ((v9 + 1).toNatClampNeg))) 75 12 x4) J11 tg12))) rfl ?_
          exact Runs.weak (L := [.ref 75, .int x1, .int x2, .int x3, .int (x4 + 1), vU]) (Lle.k (Lle.k (Lle.k (Lle.k (Lle.k (Lle.u Lle.n)))))) h
    · rw [if_neg c20] at h
      refine Runs.brF (P := v5 = x3) (a := 52) (b := 49) (L := [.ref 75, .int x1, .int x2, .int x3, .int x4, vU]) (S := []) (z := (zS I6 J7 tg8)) rfl c20 ?_
      refine Runs.sN 3 (c' := (28, [.ref 75, .int x1, .int x2, .int x3, .int (x4 + 1), vU], [], (zS I6 J7 tg8))) rfl ?_
      exact h
-- X10_allShares 
theorem sg_109 {L d : Nat} {xs : Nat → Int32} (I : Nat → Nat → Int32) (J : Nat → Nat → Int64) (tg : Option Nat) {r : Option Value × SS} (h : (Runs (GW L xs) d 109 (4, [.ref 7, .int 0, .int 0], [], (zS I J tg)) r)) : Runs (GW L xs) d 109 (0, [.ref 7, vU, vU], [], (zS I J tg)) r := by
  refine Runs.sN 4 (c' := (4, [.ref 7, .int 0, .int 0], [], (zS I J tg))) rfl ?_
  exact h
theorem sg_109_4 {L d : Nat} {xs : Nat → Int32} (I : Nat → Nat → Int32) (J : Nat → Nat → Int64) (tg : Option Nat) (x1 : Int32) (x2 : Int32) {r : Option Value × SS} (h : ((if 6 ≤ x2 then (r = (some (.int x1), (zS I J tg))) else (¬ (x2 < 0 ∨ 6 ≤ (x2).toNatClampNeg) ∧ Runs (GW L xs) d 109 (4, [.ref 7, .int (x1 + (I 8 ((x2).toNatClampNeg))), .int (x2 + 1)], [], (zS I J tg)) r)))) : Runs (GW L xs) d 109 (4, [.ref 7, .int x1, .int x2], [], (zS I J tg)) r := by
  refine Runs.sN 2 (c' := (7, [.ref 7, .int x1, .int x2], [.int 6, .int x2], (zS I J tg))) rfl ?_
  by_cases c1 : 6 ≤ x2
  · rw [if_pos c1] at h
    refine Runs.brT (P := 6 ≤ x2) (a := 25) (b := 10) (L := [.ref 7, .int x1, .int x2]) (S := []) (z := (zS I J tg)) rfl c1 ?_
    refine Runs.sN 1 (c' := (26, [.ref 7, .int x1, .int x2], [.int x1], (zS I J tg))) rfl ?_
    subst h
    exact Runs.rt rfl
  · rw [if_neg c1] at h
    refine Runs.brF (P := 6 ≤ x2) (a := 25) (b := 10) (L := [.ref 7, .int x1, .int x2]) (S := []) (z := (zS I J tg)) rfl c1 ?_
    refine Runs.sN 4 (c' := (16, [.ref 7, .int x1, .int x2], [.int x2, .ref 8, .int x1], (zS I J tg))) rfl ?_
    obtain ⟨c2, h⟩ := h
    refine Runs.to (c' := (17, [.ref 7, .int x1, .int x2], [.int (I 8 ((x2).toNatClampNeg)), .int x1], (zS I J tg))) (Runs.ild rfl (show (8 : Nat) < 114 by decide) rfl c2) ?_
    refine Runs.sN 4 (c' := (4, [.ref 7, .int (x1 + (I 8 ((x2).toNatClampNeg))), .int (x2 + 1)], [], (zS I J tg))) rfl ?_
    exact h
-- X10_afterTelling 
theorem sg_110 {L d : Nat} {xs : Nat → Int32} (I : Nat → Nat → Int32) (J : Nat → Nat → Int64) (tg : Option Nat) (a1 : Int32) {r : Option Value × SS} (h : (r = (some (.int (if (a1 + (I 7 2)) < 1000 then (a1 + (I 7 2)) else 1000)), (zS I J tg)))) : Runs (GW L xs) d 110 (0, [.ref 7, .int a1], [], (zS I J tg)) r := by
  refine Runs.sN 6 (c' := (12, [.ref 7, .int a1], [.int (if (a1 + (I 7 2)) < 1000 then (a1 + (I 7 2)) else 1000)], (zS I J tg))) rfl ?_
  subst h
  exact Runs.rt rfl
-- X10_afterWeeks 
theorem sg_111 {L d : Nat} {xs : Nat → Int32} (I : Nat → Nat → Int32) (J : Nat → Nat → Int64) (tg : Option Nat) (a1 : Int32) (a2 : Int32) {r : Option Value × SS} (h : (Runs (GW L xs) d 111 (5, [.ref 7, .int a1, .int a2, .int a1, .int 0], [], (zS I J tg)) r)) : Runs (GW L xs) d 111 (0, [.ref 7, .int a1, .int a2, vU, vU], [], (zS I J tg)) r := by
  refine Runs.sN 4 (c' := (5, [.ref 7, .int a1, .int a2, .int a1, .int 0], [], (zS I J tg))) rfl ?_
  exact h
theorem sg_111_5 {L d : Nat} {xs : Nat → Int32} (I : Nat → Nat → Int32) (J : Nat → Nat → Int64) (tg : Option Nat) (x1 : Int32) (x2 : Int32) (x3 : Int32) (x4 : Int32) {r : Option Value × SS} (h : ((if x2 ≤ x4 then (r = (some (.int x3), (zS I J tg))) else (Runs (GW L xs) d 111 (5, [.ref 7, .int x1, .int x2, .int (x3 - ((x3 * (I 7 3)) / 1000)), .int (x4 + 1)], [], (zS I J tg)) r)))) : Runs (GW L xs) d 111 (5, [.ref 7, .int x1, .int x2, .int x3, .int x4], [], (zS I J tg)) r := by
  refine Runs.sN 2 (c' := (8, [.ref 7, .int x1, .int x2, .int x3, .int x4], [.int x2, .int x4], (zS I J tg))) rfl ?_
  by_cases c1 : x2 ≤ x4
  · rw [if_pos c1] at h
    refine Runs.brT (P := x2 ≤ x4) (a := 30) (b := 11) (L := [.ref 7, .int x1, .int x2, .int x3, .int x4]) (S := []) (z := (zS I J tg)) rfl c1 ?_
    refine Runs.sN 1 (c' := (31, [.ref 7, .int x1, .int x2, .int x3, .int x4], [.int x3], (zS I J tg))) rfl ?_
    subst h
    exact Runs.rt rfl
  · rw [if_neg c1] at h
    refine Runs.brF (P := x2 ≤ x4) (a := 30) (b := 11) (L := [.ref 7, .int x1, .int x2, .int x3, .int x4]) (S := []) (z := (zS I J tg)) rfl c1 ?_
    refine Runs.sN 11 (c' := (5, [.ref 7, .int x1, .int x2, .int (x3 - ((x3 * (I 7 3)) / 1000)), .int (x4 + 1)], [], (zS I J tg))) rfl ?_
    exact h
-- X10_groupOf 
theorem sg_112 {L d : Nat} {xs : Nat → Int32} (I : Nat → Nat → Int32) (J : Nat → Nat → Int64) (tg : Option Nat) (a1 : Int32) {r : Option Value × SS} (h : ((if a1 = (-1) then (r = (some (.int 0), (zS I J tg))) else (¬ (a1 < 0 ∨ 12 ≤ (a1).toNatClampNeg) ∧ r = (some (.int (I 11 ((a1).toNatClampNeg))), (zS I J tg)))))) : Runs (GW L xs) d 112 (0, [.ref 7, .int a1], [], (zS I J tg)) r := by
  refine Runs.sN 2 (c' := (2, [.ref 7, .int a1], [.int (-1), .int a1], (zS I J tg))) rfl ?_
  by_cases c1 : a1 = (-1)
  · rw [if_pos c1] at h
    refine Runs.brT (P := a1 = (-1)) (a := 5) (b := 9) (L := [.ref 7, .int a1]) (S := []) (z := (zS I J tg)) rfl c1 ?_
    refine Runs.sN 2 (c' := (15, [.ref 7, .int a1], [.int 0], (zS I J tg))) rfl ?_
    subst h
    exact Runs.rt rfl
  · rw [if_neg c1] at h
    refine Runs.brF (P := a1 = (-1)) (a := 5) (b := 9) (L := [.ref 7, .int a1]) (S := []) (z := (zS I J tg)) rfl c1 ?_
    refine Runs.sN 3 (c' := (14, [.ref 7, .int a1], [.int a1, .ref 11], (zS I J tg))) rfl ?_
    obtain ⟨c2, h⟩ := h
    refine Runs.to (c' := (15, [.ref 7, .int a1], [.int (I 11 ((a1).toNatClampNeg))], (zS I J tg))) (Runs.ild rfl (show (11 : Nat) < 114 by decide) rfl c2) ?_
    subst h
    exact Runs.rt rfl
-- X10_pick c77
theorem sg_113c77 {L d : Nat} {xs : Nat → Int32} (I : Nat → Nat → Int32) (J : Nat → Nat → Int64) (tg : Option Nat) (a1 : Int32) (a2 : Int32) (a3 : Int32) {r : Option Value × SS} (h : (Runs (GW L xs) d 113 (9, [.ref 7, .ref 77, .int a1, .int a2, .int a3, .int (-1), .int 0, .int 0, vU], [], (zS I J tg)) r)) : Runs (GW L xs) d 113 (0, [.ref 7, .ref 77, .int a1, .int a2, .int a3, vU, vU, vU, vU], [], (zS I J tg)) r := by
  refine Runs.sN 6 (c' := (9, [.ref 7, .ref 77, .int a1, .int a2, .int a3, .int (-1), .int 0, .int 0, vU], [], (zS I J tg))) rfl ?_
  exact h
theorem sg_113c77_9 {L d : Nat} {xs : Nat → Int32} (I : Nat → Nat → Int32) (J : Nat → Nat → Int64) (tg : Option Nat) (x2 : Int32) (x3 : Int32) (x4 : Int32) (x5 : Int32) (x6 : Int32) (x7 : Int32) {r : Option Value × SS} (h : ((if 12 ≤ x7 then ((if x6 ≤ (I 7 0) then (r = (some (.int x5), (zS I J tg))) else (r = (some (.int (-1)), (zS I J tg))))) else ((if ((x3 >>> (x7 &&& 31)) &&& 1) = 0 then (Runs (GW L xs) d 113 (9, [.ref 7, .ref 77, .int x2, .int x3, .int x4, .int x5, .int x6, .int (x7 + 1), vU], [], (zS I J tg)) r) else (¬ ((x2 + x7) < 0 ∨ 12 ≤ (x2 + x7).toNatClampNeg) ∧ (if ((x4 >>> (x7 &&& 31)) &&& 1) = 0 then ((if x5 = (-1) then (Runs (GW L xs) d 113 (9, [.ref 7, .ref 77, .int x2, .int x3, .int x4, .int x7, .int ((I 77 ((x2 + x7).toNatClampNeg)) - 0), .int (x7 + 1), vU], [], (zS I J tg)) r) else ((if x6 ≤ ((I 77 ((x2 + x7).toNatClampNeg)) - 0) then (Runs (GW L xs) d 113 (9, [.ref 7, .ref 77, .int x2, .int x3, .int x4, .int x5, .int x6, .int (x7 + 1), vU], [], (zS I J tg)) r) else (Runs (GW L xs) d 113 (9, [.ref 7, .ref 77, .int x2, .int x3, .int x4, .int x7, .int ((I 77 ((x2 + x7).toNatClampNeg)) - 0), .int (x7 + 1), vU], [], (zS I J tg)) r))))) else ((if x5 = (-1) then (Runs (GW L xs) d 113 (9, [.ref 7, .ref 77, .int x2, .int x3, .int x4, .int x7, .int ((I 77 ((x2 + x7).toNatClampNeg)) - (I 7 1)), .int (x7 + 1), vU], [], (zS I J tg)) r) else ((if x6 ≤ ((I 77 ((x2 + x7).toNatClampNeg)) - (I 7 1)) then (Runs (GW L xs) d 113 (9, [.ref 7, .ref 77, .int x2, .int x3, .int x4, .int x5, .int x6, .int (x7 + 1), vU], [], (zS I J tg)) r) else (Runs (GW L xs) d 113 (9, [.ref 7, .ref 77, .int x2, .int x3, .int x4, .int x7, .int ((I 77 ((x2 + x7).toNatClampNeg)) - (I 7 1)), .int (x7 + 1), vU], [], (zS I J tg)) r)))))))))))) : Runs (GW L xs) d 113 (9, [.ref 7, .ref 77, .int x2, .int x3, .int x4, .int x5, .int x6, .int x7, vU], [], (zS I J tg)) r := by
  refine Runs.sN 2 (c' := (13, [.ref 7, .ref 77, .int x2, .int x3, .int x4, .int x5, .int x6, .int x7, vU], [.int 12, .int x7], (zS I J tg))) rfl ?_
  by_cases c1 : 12 ≤ x7
  · rw [if_pos c1] at h
    refine Runs.brT (P := 12 ≤ x7) (a := 82) (b := 16) (L := [.ref 7, .ref 77, .int x2, .int x3, .int x4, .int x5, .int x6, .int x7, vU]) (S := []) (z := (zS I J tg)) rfl c1 ?_
    refine Runs.sN 3 (c' := (88, [.ref 7, .ref 77, .int x2, .int x3, .int x4, .int x5, .int x6, .int x7, vU], [.int (I 7 0), .int x6], (zS I J tg))) rfl ?_
    by_cases c2 : x6 ≤ (I 7 0)
    · rw [if_pos c2] at h
      refine Runs.brT (P := x6 ≤ (I 7 0)) (a := 95) (b := 91) (L := [.ref 7, .ref 77, .int x2, .int x3, .int x4, .int x5, .int x6, .int x7, vU]) (S := []) (z := (zS I J tg)) rfl c2 ?_
      refine Runs.sN 1 (c' := (97, [.ref 7, .ref 77, .int x2, .int x3, .int x4, .int x5, .int x6, .int x7, vU], [.int x5], (zS I J tg))) rfl ?_
      subst h
      exact Runs.rt rfl
    · rw [if_neg c2] at h
      refine Runs.brF (P := x6 ≤ (I 7 0)) (a := 95) (b := 91) (L := [.ref 7, .ref 77, .int x2, .int x3, .int x4, .int x5, .int x6, .int x7, vU]) (S := []) (z := (zS I J tg)) rfl c2 ?_
      refine Runs.sN 2 (c' := (97, [.ref 7, .ref 77, .int x2, .int x3, .int x4, .int x5, .int x6, .int x7, vU], [.int (-1)], (zS I J tg))) rfl ?_
      subst h
      exact Runs.rt rfl
  · rw [if_neg c1] at h
    refine Runs.brF (P := 12 ≤ x7) (a := 82) (b := 16) (L := [.ref 7, .ref 77, .int x2, .int x3, .int x4, .int x5, .int x6, .int x7, vU]) (S := []) (z := (zS I J tg)) rfl c1 ?_
    refine Runs.sN 5 (c' := (22, [.ref 7, .ref 77, .int x2, .int x3, .int x4, .int x5, .int x6, .int x7, vU], [.int ((x3 >>> (x7 &&& 31)) &&& 1)], (zS I J tg))) rfl ?_
    by_cases c3 : ((x3 >>> (x7 &&& 31)) &&& 1) = 0
    · rw [if_pos c3] at h
      refine Runs.brT (P := ((x3 >>> (x7 &&& 31)) &&& 1) = 0) (a := 25) (b := 28) (L := [.ref 7, .ref 77, .int x2, .int x3, .int x4, .int x5, .int x6, .int x7, vU]) (S := []) (z := (zS I J tg)) rfl c3 ?_
      refine Runs.sN 3 (c' := (9, [.ref 7, .ref 77, .int x2, .int x3, .int x4, .int x5, .int x6, .int (x7 + 1), vU], [], (zS I J tg))) rfl ?_
      exact h
    · rw [if_neg c3] at h
      refine Runs.brF (P := ((x3 >>> (x7 &&& 31)) &&& 1) = 0) (a := 25) (b := 28) (L := [.ref 7, .ref 77, .int x2, .int x3, .int x4, .int x5, .int x6, .int x7, vU]) (S := []) (z := (zS I J tg)) rfl c3 ?_
      refine Runs.sN 4 (c' := (33, [.ref 7, .ref 77, .int x2, .int x3, .int x4, .int x5, .int x6, .int x7, vU], [.int (x2 + x7), .ref 77], (zS I J tg))) rfl ?_
      obtain ⟨c4, h⟩ := h
      refine Runs.to (c' := (34, [.ref 7, .ref 77, .int x2, .int x3, .int x4, .int x5, .int x6, .int x7, vU], [.int (I 77 ((x2 + x7).toNatClampNeg))], (zS I J tg))) (Runs.ild rfl (show (77 : Nat) < 114 by decide) rfl c4) ?_
      refine Runs.sN 5 (c' := (41, [.ref 7, .ref 77, .int x2, .int x3, .int x4, .int x5, .int x6, .int x7, vU], [.int ((x4 >>> (x7 &&& 31)) &&& 1), .int (I 77 ((x2 + x7).toNatClampNeg))], (zS I J tg))) rfl ?_
      by_cases c5 : ((x4 >>> (x7 &&& 31)) &&& 1) = 0
      · rw [if_pos c5] at h
        refine Runs.brT (P := ((x4 >>> (x7 &&& 31)) &&& 1) = 0) (a := 44) (b := 48) (L := [.ref 7, .ref 77, .int x2, .int x3, .int x4, .int x5, .int x6, .int x7, vU]) (S := [.int (I 77 ((x2 + x7).toNatClampNeg))]) (z := (zS I J tg)) rfl c5 ?_
        refine Runs.sN 6 (c' := (58, [.ref 7, .ref 77, .int x2, .int x3, .int x4, .int x5, .int x6, .int x7, .int ((I 77 ((x2 + x7).toNatClampNeg)) - 0)], [.int (-1), .int x5], (zS I J tg))) rfl ?_
        by_cases c6 : x5 = (-1)
        · rw [if_pos c6] at h
          refine Runs.brT (P := x5 = (-1)) (a := 68) (b := 61) (L := [.ref 7, .ref 77, .int x2, .int x3, .int x4, .int x5, .int x6, .int x7, .int ((I 77 ((x2 + x7).toNatClampNeg)) - 0)]) (S := []) (z := (zS I J tg)) rfl c6 ?_
          refine Runs.sN 6 (c' := (9, [.ref 7, .ref 77, .int x2, .int x3, .int x4, .int x7, .int ((I 77 ((x2 + x7).toNatClampNeg)) - 0), .int (x7 + 1), .int ((I 77 ((x2 + x7).toNatClampNeg)) - 0)], [], (zS I J tg))) rfl ?_
          exact Runs.weak (L := [.ref 7, .ref 77, .int x2, .int x3, .int x4, .int x7, .int ((I 77 ((x2 + x7).toNatClampNeg)) - 0), .int (x7 + 1), vU]) (Lle.k (Lle.k (Lle.k (Lle.k (Lle.k (Lle.k (Lle.k (Lle.k (Lle.u Lle.n))))))))) h
        · rw [if_neg c6] at h
          refine Runs.brF (P := x5 = (-1)) (a := 68) (b := 61) (L := [.ref 7, .ref 77, .int x2, .int x3, .int x4, .int x5, .int x6, .int x7, .int ((I 77 ((x2 + x7).toNatClampNeg)) - 0)]) (S := []) (z := (zS I J tg)) rfl c6 ?_
          refine Runs.sN 2 (c' := (65, [.ref 7, .ref 77, .int x2, .int x3, .int x4, .int x5, .int x6, .int x7, .int ((I 77 ((x2 + x7).toNatClampNeg)) - 0)], [.int x6, .int ((I 77 ((x2 + x7).toNatClampNeg)) - 0)], (zS I J tg))) rfl ?_
          by_cases c7 : x6 ≤ ((I 77 ((x2 + x7).toNatClampNeg)) - 0)
          · rw [if_pos c7] at h
            refine Runs.brT (P := x6 ≤ ((I 77 ((x2 + x7).toNatClampNeg)) - 0)) (a := 76) (b := 68) (L := [.ref 7, .ref 77, .int x2, .int x3, .int x4, .int x5, .int x6, .int x7, .int ((I 77 ((x2 + x7).toNatClampNeg)) - 0)]) (S := []) (z := (zS I J tg)) rfl c7 ?_
            refine Runs.sN 2 (c' := (9, [.ref 7, .ref 77, .int x2, .int x3, .int x4, .int x5, .int x6, .int (x7 + 1), .int ((I 77 ((x2 + x7).toNatClampNeg)) - 0)], [], (zS I J tg))) rfl ?_
            exact Runs.weak (L := [.ref 7, .ref 77, .int x2, .int x3, .int x4, .int x5, .int x6, .int (x7 + 1), vU]) (Lle.k (Lle.k (Lle.k (Lle.k (Lle.k (Lle.k (Lle.k (Lle.k (Lle.u Lle.n))))))))) h
          · rw [if_neg c7] at h
            refine Runs.brF (P := x6 ≤ ((I 77 ((x2 + x7).toNatClampNeg)) - 0)) (a := 76) (b := 68) (L := [.ref 7, .ref 77, .int x2, .int x3, .int x4, .int x5, .int x6, .int x7, .int ((I 77 ((x2 + x7).toNatClampNeg)) - 0)]) (S := []) (z := (zS I J tg)) rfl c7 ?_
            refine Runs.sN 6 (c' := (9, [.ref 7, .ref 77, .int x2, .int x3, .int x4, .int x7, .int ((I 77 ((x2 + x7).toNatClampNeg)) - 0), .int (x7 + 1), .int ((I 77 ((x2 + x7).toNatClampNeg)) - 0)], [], (zS I J tg))) rfl ?_
            exact Runs.weak (L := [.ref 7, .ref 77, .int x2, .int x3, .int x4, .int x7, .int ((I 77 ((x2 + x7).toNatClampNeg)) - 0), .int (x7 + 1), vU]) (Lle.k (Lle.k (Lle.k (Lle.k (Lle.k (Lle.k (Lle.k (Lle.k (Lle.u Lle.n))))))))) h
      · rw [if_neg c5] at h
        refine Runs.brF (P := ((x4 >>> (x7 &&& 31)) &&& 1) = 0) (a := 44) (b := 48) (L := [.ref 7, .ref 77, .int x2, .int x3, .int x4, .int x5, .int x6, .int x7, vU]) (S := [.int (I 77 ((x2 + x7).toNatClampNeg))]) (z := (zS I J tg)) rfl c5 ?_
        refine Runs.sN 6 (c' := (58, [.ref 7, .ref 77, .int x2, .int x3, .int x4, .int x5, .int x6, .int x7, .int ((I 77 ((x2 + x7).toNatClampNeg)) - (I 7 1))], [.int (-1), .int x5], (zS I J tg))) rfl ?_
        by_cases c8 : x5 = (-1)
        · rw [if_pos c8] at h
          refine Runs.brT (P := x5 = (-1)) (a := 68) (b := 61) (L := [.ref 7, .ref 77, .int x2, .int x3, .int x4, .int x5, .int x6, .int x7, .int ((I 77 ((x2 + x7).toNatClampNeg)) - (I 7 1))]) (S := []) (z := (zS I J tg)) rfl c8 ?_
          refine Runs.sN 6 (c' := (9, [.ref 7, .ref 77, .int x2, .int x3, .int x4, .int x7, .int ((I 77 ((x2 + x7).toNatClampNeg)) - (I 7 1)), .int (x7 + 1), .int ((I 77 ((x2 + x7).toNatClampNeg)) - (I 7 1))], [], (zS I J tg))) rfl ?_
          exact Runs.weak (L := [.ref 7, .ref 77, .int x2, .int x3, .int x4, .int x7, .int ((I 77 ((x2 + x7).toNatClampNeg)) - (I 7 1)), .int (x7 + 1), vU]) (Lle.k (Lle.k (Lle.k (Lle.k (Lle.k (Lle.k (Lle.k (Lle.k (Lle.u Lle.n))))))))) h
        · rw [if_neg c8] at h
          refine Runs.brF (P := x5 = (-1)) (a := 68) (b := 61) (L := [.ref 7, .ref 77, .int x2, .int x3, .int x4, .int x5, .int x6, .int x7, .int ((I 77 ((x2 + x7).toNatClampNeg)) - (I 7 1))]) (S := []) (z := (zS I J tg)) rfl c8 ?_
          refine Runs.sN 2 (c' := (65, [.ref 7, .ref 77, .int x2, .int x3, .int x4, .int x5, .int x6, .int x7, .int ((I 77 ((x2 + x7).toNatClampNeg)) - (I 7 1))], [.int x6, .int ((I 77 ((x2 + x7).toNatClampNeg)) - (I 7 1))], (zS I J tg))) rfl ?_
          by_cases c9 : x6 ≤ ((I 77 ((x2 + x7).toNatClampNeg)) - (I 7 1))
          · rw [if_pos c9] at h
            refine Runs.brT (P := x6 ≤ ((I 77 ((x2 + x7).toNatClampNeg)) - (I 7 1))) (a := 76) (b := 68) (L := [.ref 7, .ref 77, .int x2, .int x3, .int x4, .int x5, .int x6, .int x7, .int ((I 77 ((x2 + x7).toNatClampNeg)) - (I 7 1))]) (S := []) (z := (zS I J tg)) rfl c9 ?_
            refine Runs.sN 2 (c' := (9, [.ref 7, .ref 77, .int x2, .int x3, .int x4, .int x5, .int x6, .int (x7 + 1), .int ((I 77 ((x2 + x7).toNatClampNeg)) - (I 7 1))], [], (zS I J tg))) rfl ?_
            exact Runs.weak (L := [.ref 7, .ref 77, .int x2, .int x3, .int x4, .int x5, .int x6, .int (x7 + 1), vU]) (Lle.k (Lle.k (Lle.k (Lle.k (Lle.k (Lle.k (Lle.k (Lle.k (Lle.u Lle.n))))))))) h
          · rw [if_neg c9] at h
            refine Runs.brF (P := x6 ≤ ((I 77 ((x2 + x7).toNatClampNeg)) - (I 7 1))) (a := 76) (b := 68) (L := [.ref 7, .ref 77, .int x2, .int x3, .int x4, .int x5, .int x6, .int x7, .int ((I 77 ((x2 + x7).toNatClampNeg)) - (I 7 1))]) (S := []) (z := (zS I J tg)) rfl c9 ?_
            refine Runs.sN 6 (c' := (9, [.ref 7, .ref 77, .int x2, .int x3, .int x4, .int x7, .int ((I 77 ((x2 + x7).toNatClampNeg)) - (I 7 1)), .int (x7 + 1), .int ((I 77 ((x2 + x7).toNatClampNeg)) - (I 7 1))], [], (zS I J tg))) rfl ?_
            exact Runs.weak (L := [.ref 7, .ref 77, .int x2, .int x3, .int x4, .int x7, .int ((I 77 ((x2 + x7).toNatClampNeg)) - (I 7 1)), .int (x7 + 1), vU]) (Lle.k (Lle.k (Lle.k (Lle.k (Lle.k (Lle.k (Lle.k (Lle.k (Lle.u Lle.n))))))))) h
-- X10_pick c87
theorem sg_113c87 {L d : Nat} {xs : Nat → Int32} (I : Nat → Nat → Int32) (J : Nat → Nat → Int64) (tg : Option Nat) (a1 : Int32) (a2 : Int32) (a3 : Int32) {r : Option Value × SS} (h : (Runs (GW L xs) d 113 (9, [.ref 7, .ref 87, .int a1, .int a2, .int a3, .int (-1), .int 0, .int 0, vU], [], (zS I J tg)) r)) : Runs (GW L xs) d 113 (0, [.ref 7, .ref 87, .int a1, .int a2, .int a3, vU, vU, vU, vU], [], (zS I J tg)) r := by
  refine Runs.sN 6 (c' := (9, [.ref 7, .ref 87, .int a1, .int a2, .int a3, .int (-1), .int 0, .int 0, vU], [], (zS I J tg))) rfl ?_
  exact h
theorem sg_113c87_9 {L d : Nat} {xs : Nat → Int32} (I : Nat → Nat → Int32) (J : Nat → Nat → Int64) (tg : Option Nat) (x2 : Int32) (x3 : Int32) (x4 : Int32) (x5 : Int32) (x6 : Int32) (x7 : Int32) {r : Option Value × SS} (h : ((if 12 ≤ x7 then ((if x6 ≤ (I 7 0) then (r = (some (.int x5), (zS I J tg))) else (r = (some (.int (-1)), (zS I J tg))))) else ((if ((x3 >>> (x7 &&& 31)) &&& 1) = 0 then (Runs (GW L xs) d 113 (9, [.ref 7, .ref 87, .int x2, .int x3, .int x4, .int x5, .int x6, .int (x7 + 1), vU], [], (zS I J tg)) r) else (¬ ((x2 + x7) < 0 ∨ 96 ≤ (x2 + x7).toNatClampNeg) ∧ (if ((x4 >>> (x7 &&& 31)) &&& 1) = 0 then ((if x5 = (-1) then (Runs (GW L xs) d 113 (9, [.ref 7, .ref 87, .int x2, .int x3, .int x4, .int x7, .int ((I 87 ((x2 + x7).toNatClampNeg)) - 0), .int (x7 + 1), vU], [], (zS I J tg)) r) else ((if x6 ≤ ((I 87 ((x2 + x7).toNatClampNeg)) - 0) then (Runs (GW L xs) d 113 (9, [.ref 7, .ref 87, .int x2, .int x3, .int x4, .int x5, .int x6, .int (x7 + 1), vU], [], (zS I J tg)) r) else (Runs (GW L xs) d 113 (9, [.ref 7, .ref 87, .int x2, .int x3, .int x4, .int x7, .int ((I 87 ((x2 + x7).toNatClampNeg)) - 0), .int (x7 + 1), vU], [], (zS I J tg)) r))))) else ((if x5 = (-1) then (Runs (GW L xs) d 113 (9, [.ref 7, .ref 87, .int x2, .int x3, .int x4, .int x7, .int ((I 87 ((x2 + x7).toNatClampNeg)) - (I 7 1)), .int (x7 + 1), vU], [], (zS I J tg)) r) else ((if x6 ≤ ((I 87 ((x2 + x7).toNatClampNeg)) - (I 7 1)) then (Runs (GW L xs) d 113 (9, [.ref 7, .ref 87, .int x2, .int x3, .int x4, .int x5, .int x6, .int (x7 + 1), vU], [], (zS I J tg)) r) else (Runs (GW L xs) d 113 (9, [.ref 7, .ref 87, .int x2, .int x3, .int x4, .int x7, .int ((I 87 ((x2 + x7).toNatClampNeg)) - (I 7 1)), .int (x7 + 1), vU], [], (zS I J tg)) r)))))))))))) : Runs (GW L xs) d 113 (9, [.ref 7, .ref 87, .int x2, .int x3, .int x4, .int x5, .int x6, .int x7, vU], [], (zS I J tg)) r := by
  refine Runs.sN 2 (c' := (13, [.ref 7, .ref 87, .int x2, .int x3, .int x4, .int x5, .int x6, .int x7, vU], [.int 12, .int x7], (zS I J tg))) rfl ?_
  by_cases c1 : 12 ≤ x7
  · rw [if_pos c1] at h
    refine Runs.brT (P := 12 ≤ x7) (a := 82) (b := 16) (L := [.ref 7, .ref 87, .int x2, .int x3, .int x4, .int x5, .int x6, .int x7, vU]) (S := []) (z := (zS I J tg)) rfl c1 ?_
    refine Runs.sN 3 (c' := (88, [.ref 7, .ref 87, .int x2, .int x3, .int x4, .int x5, .int x6, .int x7, vU], [.int (I 7 0), .int x6], (zS I J tg))) rfl ?_
    by_cases c2 : x6 ≤ (I 7 0)
    · rw [if_pos c2] at h
      refine Runs.brT (P := x6 ≤ (I 7 0)) (a := 95) (b := 91) (L := [.ref 7, .ref 87, .int x2, .int x3, .int x4, .int x5, .int x6, .int x7, vU]) (S := []) (z := (zS I J tg)) rfl c2 ?_
      refine Runs.sN 1 (c' := (97, [.ref 7, .ref 87, .int x2, .int x3, .int x4, .int x5, .int x6, .int x7, vU], [.int x5], (zS I J tg))) rfl ?_
      subst h
      exact Runs.rt rfl
    · rw [if_neg c2] at h
      refine Runs.brF (P := x6 ≤ (I 7 0)) (a := 95) (b := 91) (L := [.ref 7, .ref 87, .int x2, .int x3, .int x4, .int x5, .int x6, .int x7, vU]) (S := []) (z := (zS I J tg)) rfl c2 ?_
      refine Runs.sN 2 (c' := (97, [.ref 7, .ref 87, .int x2, .int x3, .int x4, .int x5, .int x6, .int x7, vU], [.int (-1)], (zS I J tg))) rfl ?_
      subst h
      exact Runs.rt rfl
  · rw [if_neg c1] at h
    refine Runs.brF (P := 12 ≤ x7) (a := 82) (b := 16) (L := [.ref 7, .ref 87, .int x2, .int x3, .int x4, .int x5, .int x6, .int x7, vU]) (S := []) (z := (zS I J tg)) rfl c1 ?_
    refine Runs.sN 5 (c' := (22, [.ref 7, .ref 87, .int x2, .int x3, .int x4, .int x5, .int x6, .int x7, vU], [.int ((x3 >>> (x7 &&& 31)) &&& 1)], (zS I J tg))) rfl ?_
    by_cases c3 : ((x3 >>> (x7 &&& 31)) &&& 1) = 0
    · rw [if_pos c3] at h
      refine Runs.brT (P := ((x3 >>> (x7 &&& 31)) &&& 1) = 0) (a := 25) (b := 28) (L := [.ref 7, .ref 87, .int x2, .int x3, .int x4, .int x5, .int x6, .int x7, vU]) (S := []) (z := (zS I J tg)) rfl c3 ?_
      refine Runs.sN 3 (c' := (9, [.ref 7, .ref 87, .int x2, .int x3, .int x4, .int x5, .int x6, .int (x7 + 1), vU], [], (zS I J tg))) rfl ?_
      exact h
    · rw [if_neg c3] at h
      refine Runs.brF (P := ((x3 >>> (x7 &&& 31)) &&& 1) = 0) (a := 25) (b := 28) (L := [.ref 7, .ref 87, .int x2, .int x3, .int x4, .int x5, .int x6, .int x7, vU]) (S := []) (z := (zS I J tg)) rfl c3 ?_
      refine Runs.sN 4 (c' := (33, [.ref 7, .ref 87, .int x2, .int x3, .int x4, .int x5, .int x6, .int x7, vU], [.int (x2 + x7), .ref 87], (zS I J tg))) rfl ?_
      obtain ⟨c4, h⟩ := h
      refine Runs.to (c' := (34, [.ref 7, .ref 87, .int x2, .int x3, .int x4, .int x5, .int x6, .int x7, vU], [.int (I 87 ((x2 + x7).toNatClampNeg))], (zS I J tg))) (Runs.ild rfl (show (87 : Nat) < 114 by decide) rfl c4) ?_
      refine Runs.sN 5 (c' := (41, [.ref 7, .ref 87, .int x2, .int x3, .int x4, .int x5, .int x6, .int x7, vU], [.int ((x4 >>> (x7 &&& 31)) &&& 1), .int (I 87 ((x2 + x7).toNatClampNeg))], (zS I J tg))) rfl ?_
      by_cases c5 : ((x4 >>> (x7 &&& 31)) &&& 1) = 0
      · rw [if_pos c5] at h
        refine Runs.brT (P := ((x4 >>> (x7 &&& 31)) &&& 1) = 0) (a := 44) (b := 48) (L := [.ref 7, .ref 87, .int x2, .int x3, .int x4, .int x5, .int x6, .int x7, vU]) (S := [.int (I 87 ((x2 + x7).toNatClampNeg))]) (z := (zS I J tg)) rfl c5 ?_
        refine Runs.sN 6 (c' := (58, [.ref 7, .ref 87, .int x2, .int x3, .int x4, .int x5, .int x6, .int x7, .int ((I 87 ((x2 + x7).toNatClampNeg)) - 0)], [.int (-1), .int x5], (zS I J tg))) rfl ?_
        by_cases c6 : x5 = (-1)
        · rw [if_pos c6] at h
          refine Runs.brT (P := x5 = (-1)) (a := 68) (b := 61) (L := [.ref 7, .ref 87, .int x2, .int x3, .int x4, .int x5, .int x6, .int x7, .int ((I 87 ((x2 + x7).toNatClampNeg)) - 0)]) (S := []) (z := (zS I J tg)) rfl c6 ?_
          refine Runs.sN 6 (c' := (9, [.ref 7, .ref 87, .int x2, .int x3, .int x4, .int x7, .int ((I 87 ((x2 + x7).toNatClampNeg)) - 0), .int (x7 + 1), .int ((I 87 ((x2 + x7).toNatClampNeg)) - 0)], [], (zS I J tg))) rfl ?_
          exact Runs.weak (L := [.ref 7, .ref 87, .int x2, .int x3, .int x4, .int x7, .int ((I 87 ((x2 + x7).toNatClampNeg)) - 0), .int (x7 + 1), vU]) (Lle.k (Lle.k (Lle.k (Lle.k (Lle.k (Lle.k (Lle.k (Lle.k (Lle.u Lle.n))))))))) h
        · rw [if_neg c6] at h
          refine Runs.brF (P := x5 = (-1)) (a := 68) (b := 61) (L := [.ref 7, .ref 87, .int x2, .int x3, .int x4, .int x5, .int x6, .int x7, .int ((I 87 ((x2 + x7).toNatClampNeg)) - 0)]) (S := []) (z := (zS I J tg)) rfl c6 ?_
          refine Runs.sN 2 (c' := (65, [.ref 7, .ref 87, .int x2, .int x3, .int x4, .int x5, .int x6, .int x7, .int ((I 87 ((x2 + x7).toNatClampNeg)) - 0)], [.int x6, .int ((I 87 ((x2 + x7).toNatClampNeg)) - 0)], (zS I J tg))) rfl ?_
          by_cases c7 : x6 ≤ ((I 87 ((x2 + x7).toNatClampNeg)) - 0)
          · rw [if_pos c7] at h
            refine Runs.brT (P := x6 ≤ ((I 87 ((x2 + x7).toNatClampNeg)) - 0)) (a := 76) (b := 68) (L := [.ref 7, .ref 87, .int x2, .int x3, .int x4, .int x5, .int x6, .int x7, .int ((I 87 ((x2 + x7).toNatClampNeg)) - 0)]) (S := []) (z := (zS I J tg)) rfl c7 ?_
            refine Runs.sN 2 (c' := (9, [.ref 7, .ref 87, .int x2, .int x3, .int x4, .int x5, .int x6, .int (x7 + 1), .int ((I 87 ((x2 + x7).toNatClampNeg)) - 0)], [], (zS I J tg))) rfl ?_
            exact Runs.weak (L := [.ref 7, .ref 87, .int x2, .int x3, .int x4, .int x5, .int x6, .int (x7 + 1), vU]) (Lle.k (Lle.k (Lle.k (Lle.k (Lle.k (Lle.k (Lle.k (Lle.k (Lle.u Lle.n))))))))) h
          · rw [if_neg c7] at h
            refine Runs.brF (P := x6 ≤ ((I 87 ((x2 + x7).toNatClampNeg)) - 0)) (a := 76) (b := 68) (L := [.ref 7, .ref 87, .int x2, .int x3, .int x4, .int x5, .int x6, .int x7, .int ((I 87 ((x2 + x7).toNatClampNeg)) - 0)]) (S := []) (z := (zS I J tg)) rfl c7 ?_
            refine Runs.sN 6 (c' := (9, [.ref 7, .ref 87, .int x2, .int x3, .int x4, .int x7, .int ((I 87 ((x2 + x7).toNatClampNeg)) - 0), .int (x7 + 1), .int ((I 87 ((x2 + x7).toNatClampNeg)) - 0)], [], (zS I J tg))) rfl ?_
            exact Runs.weak (L := [.ref 7, .ref 87, .int x2, .int x3, .int x4, .int x7, .int ((I 87 ((x2 + x7).toNatClampNeg)) - 0), .int (x7 + 1), vU]) (Lle.k (Lle.k (Lle.k (Lle.k (Lle.k (Lle.k (Lle.k (Lle.k (Lle.u Lle.n))))))))) h
      · rw [if_neg c5] at h
        refine Runs.brF (P := ((x4 >>> (x7 &&& 31)) &&& 1) = 0) (a := 44) (b := 48) (L := [.ref 7, .ref 87, .int x2, .int x3, .int x4, .int x5, .int x6, .int x7, vU]) (S := [.int (I 87 ((x2 + x7).toNatClampNeg))]) (z := (zS I J tg)) rfl c5 ?_
        refine Runs.sN 6 (c' := (58, [.ref 7, .ref 87, .int x2, .int x3, .int x4, .int x5, .int x6, .int x7, .int ((I 87 ((x2 + x7).toNatClampNeg)) - (I 7 1))], [.int (-1), .int x5], (zS I J tg))) rfl ?_
        by_cases c8 : x5 = (-1)
        · rw [if_pos c8] at h
          refine Runs.brT (P := x5 = (-1)) (a := 68) (b := 61) (L := [.ref 7, .ref 87, .int x2, .int x3, .int x4, .int x5, .int x6, .int x7, .int ((I 87 ((x2 + x7).toNatClampNeg)) - (I 7 1))]) (S := []) (z := (zS I J tg)) rfl c8 ?_
          refine Runs.sN 6 (c' := (9, [.ref 7, .ref 87, .int x2, .int x3, .int x4, .int x7, .int ((I 87 ((x2 + x7).toNatClampNeg)) - (I 7 1)), .int (x7 + 1), .int ((I 87 ((x2 + x7).toNatClampNeg)) - (I 7 1))], [], (zS I J tg))) rfl ?_
          exact Runs.weak (L := [.ref 7, .ref 87, .int x2, .int x3, .int x4, .int x7, .int ((I 87 ((x2 + x7).toNatClampNeg)) - (I 7 1)), .int (x7 + 1), vU]) (Lle.k (Lle.k (Lle.k (Lle.k (Lle.k (Lle.k (Lle.k (Lle.k (Lle.u Lle.n))))))))) h
        · rw [if_neg c8] at h
          refine Runs.brF (P := x5 = (-1)) (a := 68) (b := 61) (L := [.ref 7, .ref 87, .int x2, .int x3, .int x4, .int x5, .int x6, .int x7, .int ((I 87 ((x2 + x7).toNatClampNeg)) - (I 7 1))]) (S := []) (z := (zS I J tg)) rfl c8 ?_
          refine Runs.sN 2 (c' := (65, [.ref 7, .ref 87, .int x2, .int x3, .int x4, .int x5, .int x6, .int x7, .int ((I 87 ((x2 + x7).toNatClampNeg)) - (I 7 1))], [.int x6, .int ((I 87 ((x2 + x7).toNatClampNeg)) - (I 7 1))], (zS I J tg))) rfl ?_
          by_cases c9 : x6 ≤ ((I 87 ((x2 + x7).toNatClampNeg)) - (I 7 1))
          · rw [if_pos c9] at h
            refine Runs.brT (P := x6 ≤ ((I 87 ((x2 + x7).toNatClampNeg)) - (I 7 1))) (a := 76) (b := 68) (L := [.ref 7, .ref 87, .int x2, .int x3, .int x4, .int x5, .int x6, .int x7, .int ((I 87 ((x2 + x7).toNatClampNeg)) - (I 7 1))]) (S := []) (z := (zS I J tg)) rfl c9 ?_
            refine Runs.sN 2 (c' := (9, [.ref 7, .ref 87, .int x2, .int x3, .int x4, .int x5, .int x6, .int (x7 + 1), .int ((I 87 ((x2 + x7).toNatClampNeg)) - (I 7 1))], [], (zS I J tg))) rfl ?_
            exact Runs.weak (L := [.ref 7, .ref 87, .int x2, .int x3, .int x4, .int x5, .int x6, .int (x7 + 1), vU]) (Lle.k (Lle.k (Lle.k (Lle.k (Lle.k (Lle.k (Lle.k (Lle.k (Lle.u Lle.n))))))))) h
          · rw [if_neg c9] at h
            refine Runs.brF (P := x6 ≤ ((I 87 ((x2 + x7).toNatClampNeg)) - (I 7 1))) (a := 76) (b := 68) (L := [.ref 7, .ref 87, .int x2, .int x3, .int x4, .int x5, .int x6, .int x7, .int ((I 87 ((x2 + x7).toNatClampNeg)) - (I 7 1))]) (S := []) (z := (zS I J tg)) rfl c9 ?_
            refine Runs.sN 6 (c' := (9, [.ref 7, .ref 87, .int x2, .int x3, .int x4, .int x7, .int ((I 87 ((x2 + x7).toNatClampNeg)) - (I 7 1)), .int (x7 + 1), .int ((I 87 ((x2 + x7).toNatClampNeg)) - (I 7 1))], [], (zS I J tg))) rfl ?_
            exact Runs.weak (L := [.ref 7, .ref 87, .int x2, .int x3, .int x4, .int x7, .int ((I 87 ((x2 + x7).toNatClampNeg)) - (I 7 1)), .int (x7 + 1), vU]) (Lle.k (Lle.k (Lle.k (Lle.k (Lle.k (Lle.k (Lle.k (Lle.k (Lle.u Lle.n))))))))) h
-- X10_copyFrom i
theorem sg_114i {L d : Nat} {xs : Nat → Int32} (I : Nat → Nat → Int32) (J : Nat → Nat → Int64) (tg : Option Nat) {r : Option Value × SS} (h : (∃ (I31 : Nat → Nat → Int32) (J32 : Nat → Nat → Int64) (tg33 : Option Nat), Runs (GW L xs) d 174 (0, [.ref 8, .ref 30], [], (zS (up2 (up2 (up2 (up2 (up2 (up2 I 29 0 (I 7 0)) 29 1 (I 7 1)) 29 2 (I 7 2)) 29 3 (I 7 3)) 29 4 (I 7 4)) 29 5 (I 7 5)) J tg)) (none, (zS I31 J32 tg33)) ∧ ∃ (I34 : Nat → Nat → Int32) (J35 : Nat → Nat → Int64) (tg36 : Option Nat), Runs (GW L xs) d 174 (0, [.ref 9, .ref 31], [], (zS I31 J32 tg33)) (none, (zS I34 J35 tg36)) ∧ ∃ (I37 : Nat → Nat → Int32) (J38 : Nat → Nat → Int64) (tg39 : Option Nat), Runs (GW L xs) d 174 (0, [.ref 10, .ref 32], [], (zS I34 J35 tg36)) (none, (zS I37 J38 tg39)) ∧ ∃ (I40 : Nat → Nat → Int32) (J41 : Nat → Nat → Int64) (tg42 : Option Nat), Runs (GW L xs) d 174 (0, [.ref 11, .ref 33], [], (zS I37 J38 tg39)) (none, (zS I40 J41 tg42)) ∧ ∃ (I43 : Nat → Nat → Int32) (J44 : Nat → Nat → Int64) (tg45 : Option Nat), Runs (GW L xs) d 174 (0, [.ref 12, .ref 34], [], (zS I40 J41 tg42)) (none, (zS I43 J44 tg45)) ∧ ∃ (I46 : Nat → Nat → Int32) (J47 : Nat → Nat → Int64) (tg48 : Option Nat), Runs (GW L xs) d 174 (0, [.ref 13, .ref 35], [], (zS I43 J44 tg45)) (none, (zS I46 J47 tg48)) ∧ ∃ (I49 : Nat → Nat → Int32) (J50 : Nat → Nat → Int64) (tg51 : Option Nat), Runs (GW L xs) d 174 (0, [.ref 14, .ref 36], [], (zS I46 J47 tg48)) (none, (zS I49 J50 tg51)) ∧ ∃ (I52 : Nat → Nat → Int32) (J53 : Nat → Nat → Int64) (tg54 : Option Nat), Runs (GW L xs) d 174 (0, [.ref 15, .ref 37], [], (zS I49 J50 tg51)) (none, (zS I52 J53 tg54)) ∧ ∃ (I55 : Nat → Nat → Int32) (J56 : Nat → Nat → Int64) (tg57 : Option Nat), Runs (GW L xs) d 174 (0, [.ref 16, .ref 38], [], (zS I52 J53 tg54)) (none, (zS I55 J56 tg57)) ∧ ∃ (I58 : Nat → Nat → Int32) (J59 : Nat → Nat → Int64) (tg60 : Option Nat), Runs (GW L xs) d 174 (0, [.ref 17, .ref 39], [], (zS I55 J56 tg57)) (none, (zS I58 J59 tg60)) ∧ r = (none, (zS I58 J59 tg60)))) : Runs (GW L xs) (d + 1) 114 (0, [.ref 29, .ref 7], [], (zS I J tg)) r := by
  refine Runs.sN 28 (c' := (56, [.ref 29, .ref 7], [.ref 30, .ref 8], (zS (up2 (up2 (up2 (up2 (up2 (up2 I 29 0 (I 7 0)) 29 1 (I 7 1)) 29 2 (I 7 2)) 29 3 (I 7 3)) 29 4 (I 7 4)) 29 5 (I 7 5)) J tg))) rfl ?_
  obtain ⟨I31, J32, tg33, c61, h⟩ := h
  refine Runs.cl (cm := 174) (as := [.ref 8, .ref 30]) (rest := []) (r1 := (none, (zS I31 J32 tg33))) rfl (Nat.le_of_ble_eq_true rfl) c61 ?_
  refine Runs.as (c' := (59, [.ref 29, .ref 7], [], (zS I31 J32 tg33))) rfl ?_
  refine Runs.sN 4 (c' := (67, [.ref 29, .ref 7], [.ref 31, .ref 9], (zS I31 J32 tg33))) rfl ?_
  obtain ⟨I34, J35, tg36, c62, h⟩ := h
  refine Runs.cl (cm := 174) (as := [.ref 9, .ref 31]) (rest := []) (r1 := (none, (zS I34 J35 tg36))) rfl (Nat.le_of_ble_eq_true rfl) c62 ?_
  refine Runs.as (c' := (70, [.ref 29, .ref 7], [], (zS I34 J35 tg36))) rfl ?_
  refine Runs.sN 4 (c' := (78, [.ref 29, .ref 7], [.ref 32, .ref 10], (zS I34 J35 tg36))) rfl ?_
  obtain ⟨I37, J38, tg39, c63, h⟩ := h
  refine Runs.cl (cm := 174) (as := [.ref 10, .ref 32]) (rest := []) (r1 := (none, (zS I37 J38 tg39))) rfl (Nat.le_of_ble_eq_true rfl) c63 ?_
  refine Runs.as (c' := (81, [.ref 29, .ref 7], [], (zS I37 J38 tg39))) rfl ?_
  refine Runs.sN 4 (c' := (89, [.ref 29, .ref 7], [.ref 33, .ref 11], (zS I37 J38 tg39))) rfl ?_
  obtain ⟨I40, J41, tg42, c64, h⟩ := h
  refine Runs.cl (cm := 174) (as := [.ref 11, .ref 33]) (rest := []) (r1 := (none, (zS I40 J41 tg42))) rfl (Nat.le_of_ble_eq_true rfl) c64 ?_
  refine Runs.as (c' := (92, [.ref 29, .ref 7], [], (zS I40 J41 tg42))) rfl ?_
  refine Runs.sN 4 (c' := (100, [.ref 29, .ref 7], [.ref 34, .ref 12], (zS I40 J41 tg42))) rfl ?_
  obtain ⟨I43, J44, tg45, c65, h⟩ := h
  refine Runs.cl (cm := 174) (as := [.ref 12, .ref 34]) (rest := []) (r1 := (none, (zS I43 J44 tg45))) rfl (Nat.le_of_ble_eq_true rfl) c65 ?_
  refine Runs.as (c' := (103, [.ref 29, .ref 7], [], (zS I43 J44 tg45))) rfl ?_
  refine Runs.sN 4 (c' := (111, [.ref 29, .ref 7], [.ref 35, .ref 13], (zS I43 J44 tg45))) rfl ?_
  obtain ⟨I46, J47, tg48, c66, h⟩ := h
  refine Runs.cl (cm := 174) (as := [.ref 13, .ref 35]) (rest := []) (r1 := (none, (zS I46 J47 tg48))) rfl (Nat.le_of_ble_eq_true rfl) c66 ?_
  refine Runs.as (c' := (114, [.ref 29, .ref 7], [], (zS I46 J47 tg48))) rfl ?_
  refine Runs.sN 4 (c' := (122, [.ref 29, .ref 7], [.ref 36, .ref 14], (zS I46 J47 tg48))) rfl ?_
  obtain ⟨I49, J50, tg51, c67, h⟩ := h
  refine Runs.cl (cm := 174) (as := [.ref 14, .ref 36]) (rest := []) (r1 := (none, (zS I49 J50 tg51))) rfl (Nat.le_of_ble_eq_true rfl) c67 ?_
  refine Runs.as (c' := (125, [.ref 29, .ref 7], [], (zS I49 J50 tg51))) rfl ?_
  refine Runs.sN 4 (c' := (133, [.ref 29, .ref 7], [.ref 37, .ref 15], (zS I49 J50 tg51))) rfl ?_
  obtain ⟨I52, J53, tg54, c68, h⟩ := h
  refine Runs.cl (cm := 174) (as := [.ref 15, .ref 37]) (rest := []) (r1 := (none, (zS I52 J53 tg54))) rfl (Nat.le_of_ble_eq_true rfl) c68 ?_
  refine Runs.as (c' := (136, [.ref 29, .ref 7], [], (zS I52 J53 tg54))) rfl ?_
  refine Runs.sN 4 (c' := (144, [.ref 29, .ref 7], [.ref 38, .ref 16], (zS I52 J53 tg54))) rfl ?_
  obtain ⟨I55, J56, tg57, c69, h⟩ := h
  refine Runs.cl (cm := 174) (as := [.ref 16, .ref 38]) (rest := []) (r1 := (none, (zS I55 J56 tg57))) rfl (Nat.le_of_ble_eq_true rfl) c69 ?_
  refine Runs.as (c' := (147, [.ref 29, .ref 7], [], (zS I55 J56 tg57))) rfl ?_
  refine Runs.sN 4 (c' := (155, [.ref 29, .ref 7], [.ref 39, .ref 17], (zS I55 J56 tg57))) rfl ?_
  obtain ⟨I58, J59, tg60, c70, h⟩ := h
  refine Runs.cl (cm := 174) (as := [.ref 17, .ref 39]) (rest := []) (r1 := (none, (zS I58 J59 tg60))) rfl (Nat.le_of_ble_eq_true rfl) c70 ?_
  refine Runs.as (c' := (158, [.ref 29, .ref 7], [], (zS I58 J59 tg60))) rfl ?_
  subst h
  exact Runs.rt rfl
-- X10_copyFrom b
theorem sg_114b {L d : Nat} {xs : Nat → Int32} (I : Nat → Nat → Int32) (J : Nat → Nat → Int64) (tg : Option Nat) {r : Option Value × SS} (h : (∃ (I31 : Nat → Nat → Int32) (J32 : Nat → Nat → Int64) (tg33 : Option Nat), Runs (GW L xs) d 174 (0, [.ref 30, .ref 8], [], (zS (up2 (up2 (up2 (up2 (up2 (up2 I 7 0 (I 29 0)) 7 1 (I 29 1)) 7 2 (I 29 2)) 7 3 (I 29 3)) 7 4 (I 29 4)) 7 5 (I 29 5)) J tg)) (none, (zS I31 J32 tg33)) ∧ ∃ (I34 : Nat → Nat → Int32) (J35 : Nat → Nat → Int64) (tg36 : Option Nat), Runs (GW L xs) d 174 (0, [.ref 31, .ref 9], [], (zS I31 J32 tg33)) (none, (zS I34 J35 tg36)) ∧ ∃ (I37 : Nat → Nat → Int32) (J38 : Nat → Nat → Int64) (tg39 : Option Nat), Runs (GW L xs) d 174 (0, [.ref 32, .ref 10], [], (zS I34 J35 tg36)) (none, (zS I37 J38 tg39)) ∧ ∃ (I40 : Nat → Nat → Int32) (J41 : Nat → Nat → Int64) (tg42 : Option Nat), Runs (GW L xs) d 174 (0, [.ref 33, .ref 11], [], (zS I37 J38 tg39)) (none, (zS I40 J41 tg42)) ∧ ∃ (I43 : Nat → Nat → Int32) (J44 : Nat → Nat → Int64) (tg45 : Option Nat), Runs (GW L xs) d 174 (0, [.ref 34, .ref 12], [], (zS I40 J41 tg42)) (none, (zS I43 J44 tg45)) ∧ ∃ (I46 : Nat → Nat → Int32) (J47 : Nat → Nat → Int64) (tg48 : Option Nat), Runs (GW L xs) d 174 (0, [.ref 35, .ref 13], [], (zS I43 J44 tg45)) (none, (zS I46 J47 tg48)) ∧ ∃ (I49 : Nat → Nat → Int32) (J50 : Nat → Nat → Int64) (tg51 : Option Nat), Runs (GW L xs) d 174 (0, [.ref 36, .ref 14], [], (zS I46 J47 tg48)) (none, (zS I49 J50 tg51)) ∧ ∃ (I52 : Nat → Nat → Int32) (J53 : Nat → Nat → Int64) (tg54 : Option Nat), Runs (GW L xs) d 174 (0, [.ref 37, .ref 15], [], (zS I49 J50 tg51)) (none, (zS I52 J53 tg54)) ∧ ∃ (I55 : Nat → Nat → Int32) (J56 : Nat → Nat → Int64) (tg57 : Option Nat), Runs (GW L xs) d 174 (0, [.ref 38, .ref 16], [], (zS I52 J53 tg54)) (none, (zS I55 J56 tg57)) ∧ ∃ (I58 : Nat → Nat → Int32) (J59 : Nat → Nat → Int64) (tg60 : Option Nat), Runs (GW L xs) d 174 (0, [.ref 39, .ref 17], [], (zS I55 J56 tg57)) (none, (zS I58 J59 tg60)) ∧ r = (none, (zS I58 J59 tg60)))) : Runs (GW L xs) (d + 1) 114 (0, [.ref 7, .ref 29], [], (zS I J tg)) r := by
  refine Runs.sN 28 (c' := (56, [.ref 7, .ref 29], [.ref 8, .ref 30], (zS (up2 (up2 (up2 (up2 (up2 (up2 I 7 0 (I 29 0)) 7 1 (I 29 1)) 7 2 (I 29 2)) 7 3 (I 29 3)) 7 4 (I 29 4)) 7 5 (I 29 5)) J tg))) rfl ?_
  obtain ⟨I31, J32, tg33, c61, h⟩ := h
  refine Runs.cl (cm := 174) (as := [.ref 30, .ref 8]) (rest := []) (r1 := (none, (zS I31 J32 tg33))) rfl (Nat.le_of_ble_eq_true rfl) c61 ?_
  refine Runs.as (c' := (59, [.ref 7, .ref 29], [], (zS I31 J32 tg33))) rfl ?_
  refine Runs.sN 4 (c' := (67, [.ref 7, .ref 29], [.ref 9, .ref 31], (zS I31 J32 tg33))) rfl ?_
  obtain ⟨I34, J35, tg36, c62, h⟩ := h
  refine Runs.cl (cm := 174) (as := [.ref 31, .ref 9]) (rest := []) (r1 := (none, (zS I34 J35 tg36))) rfl (Nat.le_of_ble_eq_true rfl) c62 ?_
  refine Runs.as (c' := (70, [.ref 7, .ref 29], [], (zS I34 J35 tg36))) rfl ?_
  refine Runs.sN 4 (c' := (78, [.ref 7, .ref 29], [.ref 10, .ref 32], (zS I34 J35 tg36))) rfl ?_
  obtain ⟨I37, J38, tg39, c63, h⟩ := h
  refine Runs.cl (cm := 174) (as := [.ref 32, .ref 10]) (rest := []) (r1 := (none, (zS I37 J38 tg39))) rfl (Nat.le_of_ble_eq_true rfl) c63 ?_
  refine Runs.as (c' := (81, [.ref 7, .ref 29], [], (zS I37 J38 tg39))) rfl ?_
  refine Runs.sN 4 (c' := (89, [.ref 7, .ref 29], [.ref 11, .ref 33], (zS I37 J38 tg39))) rfl ?_
  obtain ⟨I40, J41, tg42, c64, h⟩ := h
  refine Runs.cl (cm := 174) (as := [.ref 33, .ref 11]) (rest := []) (r1 := (none, (zS I40 J41 tg42))) rfl (Nat.le_of_ble_eq_true rfl) c64 ?_
  refine Runs.as (c' := (92, [.ref 7, .ref 29], [], (zS I40 J41 tg42))) rfl ?_
  refine Runs.sN 4 (c' := (100, [.ref 7, .ref 29], [.ref 12, .ref 34], (zS I40 J41 tg42))) rfl ?_
  obtain ⟨I43, J44, tg45, c65, h⟩ := h
  refine Runs.cl (cm := 174) (as := [.ref 34, .ref 12]) (rest := []) (r1 := (none, (zS I43 J44 tg45))) rfl (Nat.le_of_ble_eq_true rfl) c65 ?_
  refine Runs.as (c' := (103, [.ref 7, .ref 29], [], (zS I43 J44 tg45))) rfl ?_
  refine Runs.sN 4 (c' := (111, [.ref 7, .ref 29], [.ref 13, .ref 35], (zS I43 J44 tg45))) rfl ?_
  obtain ⟨I46, J47, tg48, c66, h⟩ := h
  refine Runs.cl (cm := 174) (as := [.ref 35, .ref 13]) (rest := []) (r1 := (none, (zS I46 J47 tg48))) rfl (Nat.le_of_ble_eq_true rfl) c66 ?_
  refine Runs.as (c' := (114, [.ref 7, .ref 29], [], (zS I46 J47 tg48))) rfl ?_
  refine Runs.sN 4 (c' := (122, [.ref 7, .ref 29], [.ref 14, .ref 36], (zS I46 J47 tg48))) rfl ?_
  obtain ⟨I49, J50, tg51, c67, h⟩ := h
  refine Runs.cl (cm := 174) (as := [.ref 36, .ref 14]) (rest := []) (r1 := (none, (zS I49 J50 tg51))) rfl (Nat.le_of_ble_eq_true rfl) c67 ?_
  refine Runs.as (c' := (125, [.ref 7, .ref 29], [], (zS I49 J50 tg51))) rfl ?_
  refine Runs.sN 4 (c' := (133, [.ref 7, .ref 29], [.ref 15, .ref 37], (zS I49 J50 tg51))) rfl ?_
  obtain ⟨I52, J53, tg54, c68, h⟩ := h
  refine Runs.cl (cm := 174) (as := [.ref 37, .ref 15]) (rest := []) (r1 := (none, (zS I52 J53 tg54))) rfl (Nat.le_of_ble_eq_true rfl) c68 ?_
  refine Runs.as (c' := (136, [.ref 7, .ref 29], [], (zS I52 J53 tg54))) rfl ?_
  refine Runs.sN 4 (c' := (144, [.ref 7, .ref 29], [.ref 16, .ref 38], (zS I52 J53 tg54))) rfl ?_
  obtain ⟨I55, J56, tg57, c69, h⟩ := h
  refine Runs.cl (cm := 174) (as := [.ref 38, .ref 16]) (rest := []) (r1 := (none, (zS I55 J56 tg57))) rfl (Nat.le_of_ble_eq_true rfl) c69 ?_
  refine Runs.as (c' := (147, [.ref 7, .ref 29], [], (zS I55 J56 tg57))) rfl ?_
  refine Runs.sN 4 (c' := (155, [.ref 7, .ref 29], [.ref 17, .ref 39], (zS I55 J56 tg57))) rfl ?_
  obtain ⟨I58, J59, tg60, c70, h⟩ := h
  refine Runs.cl (cm := 174) (as := [.ref 39, .ref 17]) (rest := []) (r1 := (none, (zS I58 J59 tg60))) rfl (Nat.le_of_ble_eq_true rfl) c70 ?_
  refine Runs.as (c' := (158, [.ref 7, .ref 29], [], (zS I58 J59 tg60))) rfl ?_
  subst h
  exact Runs.rt rfl
