theorem sg_164 {L d : Nat} {xs : Nat → Int32} (I : Nat → Nat → Int32) (J : Nat → Nat → Int64) (tg : Option Nat) (a1 : Int32) (a2 : Int32) (a3 : Int32) {r : Option Value × SS} (h : ((if a1 < a2 then (r = (some (.int 0), (zS I J tg))) else ((if a3 < a1 then (r = (some (.int 0), (zS I J tg))) else (r = (some (.int 1), (zS I J tg)))))))) : Runs (GW L xs) d 164 (0, [.int a1, .int a2, .int a3], [], (zS I J tg)) r := by
  refine Runs.sN 2 (c' := (2, [.int a1, .int a2, .int a3], [.int a2, .int a1], (zS I J tg))) rfl ?_
  by_cases c1 : a1 < a2
  · rw [if_pos c1] at h
    refine Runs.brT (P := a1 < a2) (a := 14) (b := 5) (L := [.int a1, .int a2, .int a3]) (S := []) (z := (zS I J tg)) rfl c1 ?_
    refine Runs.sN 1 (c' := (15, [.int a1, .int a2, .int a3], [.int 0], (zS I J tg))) rfl ?_
    subst h
    exact Runs.rt rfl
  · rw [if_neg c1] at h
    refine Runs.brF (P := a1 < a2) (a := 14) (b := 5) (L := [.int a1, .int a2, .int a3]) (S := []) (z := (zS I J tg)) rfl c1 ?_
    refine Runs.sN 2 (c' := (7, [.int a1, .int a2, .int a3], [.int a3, .int a1], (zS I J tg))) rfl ?_
    by_cases c2 : a3 < a1
    · rw [if_pos c2] at h
      refine Runs.brT (P := a3 < a1) (a := 14) (b := 10) (L := [.int a1, .int a2, .int a3]) (S := []) (z := (zS I J tg)) rfl c2 ?_
      refine Runs.sN 1 (c' := (15, [.int a1, .int a2, .int a3], [.int 0], (zS I J tg))) rfl ?_
      subst h
      exact Runs.rt rfl
    · rw [if_neg c2] at h
      refine Runs.brF (P := a3 < a1) (a := 14) (b := 10) (L := [.int a1, .int a2, .int a3]) (S := []) (z := (zS I J tg)) rfl c2 ?_
      refine Runs.sN 2 (c' := (15, [.int a1, .int a2, .int a3], [.int 1], (zS I J tg))) rfl ?_
      subst h
      exact Runs.rt rfl
theorem sg_44 {L d : Nat} {xs : Nat → Int32} (I : Nat → Nat → Int32) (J : Nat → Nat → Int64) (tg : Option Nat) (a1 : Int32) {r : Option Value × SS} (h : (∃ (v1 : Int32) (I2 : Nat → Nat → Int32) (J3 : Nat → Nat → Int64) (tg4 : Option Nat), Runs (GW L xs) d 164 (0, [.int a1, .int 0, .int ((I 1 0) - 1)], [], (zS I J tg)) ((some (.int v1)), (zS I2 J3 tg4)) ∧ (v1 = 0 ∨ v1 = 1) ∧ r = (some (.int v1), (zS I2 J3 tg4)))) : Runs (GW L xs) (d + 1) 44 (0, [.ref 1, .int a1], [], (zS I J tg)) r := by
  refine Runs.sN 6 (c' := (8, [.ref 1, .int a1], [.int ((I 1 0) - 1), .int 0, .int a1], (zS I J tg))) rfl ?_
  obtain ⟨v1, I2, J3, tg4, c5, h⟩ := h
  refine Runs.cl (cm := 164) (as := [.int a1, .int 0, .int ((I 1 0) - 1)]) (rest := []) (r1 := ((some (.int v1)), (zS I2 J3 tg4))) rfl (Nat.le_of_ble_eq_true rfl) c5 ?_
  refine Runs.as (c' := (11, [.ref 1, .int a1], [.int v1], (zS I2 J3 tg4))) rfl ?_
  obtain ⟨h0, h⟩ := h
  subst h
  exact Runs.zrt rfl rfl h0
theorem sg_46 {L d : Nat} {xs : Nat → Int32} (I : Nat → Nat → Int32) (J : Nat → Nat → Int64) (tg : Option Nat) (a1 : Int32) {r : Option Value × SS} (h : (∃ (v1 : Int32) (I2 : Nat → Nat → Int32) (J3 : Nat → Nat → Int64) (tg4 : Option Nat), Runs (GW L xs) d 44 (0, [.ref 1, .int a1], [], (zS I J tg)) ((some (.int v1)), (zS I2 J3 tg4)) ∧ (if v1 = 0 then (∃ (v5 : Int32) (I6 : Nat → Nat → Int32) (J7 : Nat → Nat → Int64) (tg8 : Option Nat), Runs (GW L xs) d 45 (0, [.ref 1, .int a1], [], (zS I2 J3 tg4)) ((some (.int v5)), (zS I6 J7 tg8)) ∧ (if v5 = 0 then (r = (some (.int 0), (zS I6 J7 tg8))) else (r = (some (.int 1), (zS I6 J7 tg8))))) else (r = (some (.int 1), (zS I2 J3 tg4)))))) : Runs (GW L xs) (d + 1) 46 (0, [.ref 1, .int a1], [], (zS I J tg)) r := by
  refine Runs.sN 2 (c' := (2, [.ref 1, .int a1], [.int a1, .ref 1], (zS I J tg))) rfl ?_
  obtain ⟨v1, I2, J3, tg4, c9, h⟩ := h
  refine Runs.cl (cm := 44) (as := [.ref 1, .int a1]) (rest := []) (r1 := ((some (.int v1)), (zS I2 J3 tg4))) rfl (Nat.le_of_ble_eq_true rfl) c9 ?_
  refine Runs.as (c' := (5, [.ref 1, .int a1], [.int v1], (zS I2 J3 tg4))) rfl ?_
  by_cases c10 : v1 = 0
  · rw [if_pos c10] at h
    refine Runs.brT (P := v1 = 0) (a := 8) (b := 16) (L := [.ref 1, .int a1]) (S := []) (z := (zS I2 J3 tg4)) rfl c10 ?_
    refine Runs.sN 2 (c' := (10, [.ref 1, .int a1], [.int a1, .ref 1], (zS I2 J3 tg4))) rfl ?_
    obtain ⟨v5, I6, J7, tg8, c11, h⟩ := h
    refine Runs.cl (cm := 45) (as := [.ref 1, .int a1]) (rest := []) (r1 := ((some (.int v5)), (zS I6 J7 tg8))) rfl (Nat.le_of_ble_eq_true rfl) c11 ?_
    refine Runs.as (c' := (13, [.ref 1, .int a1], [.int v5], (zS I6 J7 tg8))) rfl ?_
    by_cases c12 : v5 = 0
    · rw [if_pos c12] at h
      refine Runs.brT (P := v5 = 0) (a := 20) (b := 16) (L := [.ref 1, .int a1]) (S := []) (z := (zS I6 J7 tg8)) rfl c12 ?_
      refine Runs.sN 1 (c' := (21, [.ref 1, .int a1], [.int 0], (zS I6 J7 tg8))) rfl ?_
      subst h
      exact Runs.rt rfl
    · rw [if_neg c12] at h
      refine Runs.brF (P := v5 = 0) (a := 20) (b := 16) (L := [.ref 1, .int a1]) (S := []) (z := (zS I6 J7 tg8)) rfl c12 ?_
      refine Runs.sN 2 (c' := (21, [.ref 1, .int a1], [.int 1], (zS I6 J7 tg8))) rfl ?_
      subst h
      exact Runs.rt rfl
  · rw [if_neg c10] at h
    refine Runs.brF (P := v1 = 0) (a := 8) (b := 16) (L := [.ref 1, .int a1]) (S := []) (z := (zS I2 J3 tg4)) rfl c10 ?_
    refine Runs.sN 2 (c' := (21, [.ref 1, .int a1], [.int 1], (zS I2 J3 tg4))) rfl ?_
    subst h
    exact Runs.rt rfl
theorem sg_118 {L d : Nat} {xs : Nat → Int32} (I : Nat → Nat → Int32) (J : Nat → Nat → Int64) (tg : Option Nat) (a1 : Int32) {r : Option Value × SS} (h : (∃ (v1 : Int32) (I2 : Nat → Nat → Int32) (J3 : Nat → Nat → Int64) (tg4 : Option Nat), Runs (GW L xs) d 46 (0, [.ref 1, .int a1], [], (zS I J tg)) ((some (.int v1)), (zS I2 J3 tg4)) ∧ (if v1 = 0 then (r = (some (.int (-1)), (zS I2 J3 tg4))) else (¬ (a1 < 0 ∨ 24 ≤ (a1).toNatClampNeg) ∧ ¬ (a1 < 0 ∨ 24 ≤ (a1).toNatClampNeg) ∧ ∃ (I5 : Nat → Nat → Int32) (J6 : Nat → Nat → Int64) (tg7 : Option Nat), Runs (GW L xs) d 61 (0, [.ref 70, .int a1, vU], [], (zS (up2 I2 3 ((a1).toNatClampNeg) 0) J3 tg4)) (none, (zS I5 J6 tg7)) ∧ r = (some (.int (I2 3 ((a1).toNatClampNeg))), (zS I5 J6 tg7)))))) : Runs (GW L xs) (d + 1) 118 (0, [.ref 0, .int a1, vU], [], (zS I J tg)) r := by
  refine Runs.sN 3 (c' := (5, [.ref 0, .int a1, vU], [.int a1, .ref 1], (zS I J tg))) rfl ?_
  obtain ⟨v1, I2, J3, tg4, c8, h⟩ := h
  refine Runs.cl (cm := 46) (as := [.ref 1, .int a1]) (rest := []) (r1 := ((some (.int v1)), (zS I2 J3 tg4))) rfl (Nat.le_of_ble_eq_true rfl) c8 ?_
  refine Runs.as (c' := (8, [.ref 0, .int a1, vU], [.int v1], (zS I2 J3 tg4))) rfl ?_
  by_cases c9 : v1 = 0
  · rw [if_pos c9] at h
    refine Runs.brT (P := v1 = 0) (a := 11) (b := 13) (L := [.ref 0, .int a1, vU]) (S := []) (z := (zS I2 J3 tg4)) rfl c9 ?_
    refine Runs.sN 1 (c' := (12, [.ref 0, .int a1, vU], [.int (-1)], (zS I2 J3 tg4))) rfl ?_
    subst h
    exact Runs.rt rfl
  · rw [if_neg c9] at h
    refine Runs.brF (P := v1 = 0) (a := 11) (b := 13) (L := [.ref 0, .int a1, vU]) (S := []) (z := (zS I2 J3 tg4)) rfl c9 ?_
    refine Runs.sN 4 (c' := (21, [.ref 0, .int a1, vU], [.int a1, .ref 3], (zS I2 J3 tg4))) rfl ?_
    obtain ⟨c10, h⟩ := h
    refine Runs.to (c' := (22, [.ref 0, .int a1, vU], [.int (I2 3 ((a1).toNatClampNeg))], (zS I2 J3 tg4))) (Runs.ild rfl (show (3 : Nat) < 114 by decide) rfl c10) ?_
    refine Runs.sN 6 (c' := (32, [.ref 0, .int a1, .int (I2 3 ((a1).toNatClampNeg))], [.int 0, .int a1, .ref 3], (zS I2 J3 tg4))) rfl ?_
    obtain ⟨c11, h⟩ := h
    refine Runs.to (c' := (33, [.ref 0, .int a1, .int (I2 3 ((a1).toNatClampNeg))], [], (zS (up2 I2 3 ((a1).toNatClampNeg) 0) J3 tg4))) (Runs.ist rfl (show (3 : Nat) < 114 by decide) rfl c11) ?_
    refine Runs.sN 3 (c' := (38, [.ref 0, .int a1, .int (I2 3 ((a1).toNatClampNeg))], [.int a1, .ref 70], (zS (up2 I2 3 ((a1).toNatClampNeg) 0) J3 tg4))) rfl ?_
    obtain ⟨I5, J6, tg7, c12, h⟩ := h
    refine Runs.cl (cm := 61) (as := [.ref 70, .int a1]) (rest := []) (r1 := (none, (zS I5 J6 tg7))) rfl (Nat.le_of_ble_eq_true rfl) c12 ?_
    refine Runs.as (c' := (41, [.ref 0, .int a1, .int (I2 3 ((a1).toNatClampNeg))], [], (zS I5 J6 tg7))) rfl ?_
    refine Runs.sN 1 (c' := (42, [.ref 0, .int a1, .int (I2 3 ((a1).toNatClampNeg))], [.int (I2 3 ((a1).toNatClampNeg))], (zS I5 J6 tg7))) rfl ?_
    subst h
    exact Runs.rt rfl
theorem sg_153 {L d : Nat} {xs : Nat → Int32} (I : Nat → Nat → Int32) (J : Nat → Nat → Int64) (tg : Option Nat) (a1 : Int32) {r : Option Value × SS} (h : (∃ (v1 : Int32) (I2 : Nat → Nat → Int32) (J3 : Nat → Nat → Int64) (tg4 : Option Nat), Runs (GW L xs) d 164 (0, [.int a1, .int 1, .int 99], [], (zS I J tg)) ((some (.int v1)), (zS I2 J3 tg4)) ∧ (if v1 = 0 then (r = (some (.int (-1)), (zS I2 J3 tg4))) else ((if ((I2 7 4) + a1) ≤ 999 then (r = (some (.int ((I2 7 4) + a1)), (zS (up2 I2 7 4 ((I2 7 4) + a1)) J3 tg4))) else (r = (some (.int (-1)), (zS I2 J3 tg4)))))))) : Runs (GW L xs) (d + 1) 153 (0, [.ref 0, .int a1], [], (zS I J tg)) r := by
  refine Runs.sN 3 (c' := (4, [.ref 0, .int a1], [.int 99, .int 1, .int a1], (zS I J tg))) rfl ?_
  obtain ⟨v1, I2, J3, tg4, c5, h⟩ := h
  refine Runs.cl (cm := 164) (as := [.int a1, .int 1, .int 99]) (rest := []) (r1 := ((some (.int v1)), (zS I2 J3 tg4))) rfl (Nat.le_of_ble_eq_true rfl) c5 ?_
  refine Runs.as (c' := (7, [.ref 0, .int a1], [.int v1], (zS I2 J3 tg4))) rfl ?_
  by_cases c6 : v1 = 0
  · rw [if_pos c6] at h
    refine Runs.brT (P := v1 = 0) (a := 25) (b := 10) (L := [.ref 0, .int a1]) (S := []) (z := (zS I2 J3 tg4)) rfl c6 ?_
    refine Runs.sN 1 (c' := (26, [.ref 0, .int a1], [.int (-1)], (zS I2 J3 tg4))) rfl ?_
    subst h
    exact Runs.rt rfl
  · rw [if_neg c6] at h
    refine Runs.brF (P := v1 = 0) (a := 25) (b := 10) (L := [.ref 0, .int a1]) (S := []) (z := (zS I2 J3 tg4)) rfl c6 ?_
    refine Runs.sN 6 (c' := (22, [.ref 0, .int a1], [.int 999, .int ((I2 7 4) + a1)], (zS I2 J3 tg4))) rfl ?_
    by_cases c7 : ((I2 7 4) + a1) ≤ 999
    · rw [if_pos c7] at h
      refine Runs.brT (P := ((I2 7 4) + a1) ≤ 999) (a := 27) (b := 25) (L := [.ref 0, .int a1]) (S := []) (z := (zS I2 J3 tg4)) rfl c7 ?_
      refine Runs.sN 10 (c' := (47, [.ref 0, .int a1], [.int ((I2 7 4) + a1)], (zS (up2 I2 7 4 ((I2 7 4) + a1)) J3 tg4))) rfl ?_
      subst h
      exact Runs.rt rfl
    · rw [if_neg c7] at h
      refine Runs.brF (P := ((I2 7 4) + a1) ≤ 999) (a := 27) (b := 25) (L := [.ref 0, .int a1]) (S := []) (z := (zS I2 J3 tg4)) rfl c7 ?_
      refine Runs.sN 1 (c' := (26, [.ref 0, .int a1], [.int (-1)], (zS I2 J3 tg4))) rfl ?_
      subst h
      exact Runs.rt rfl
theorem sg_116 {L d : Nat} {xs : Nat → Int32} (I : Nat → Nat → Int32) (J : Nat → Nat → Int64) (tg : Option Nat) (a1 : Int32) {r : Option Value × SS} (h : ((if a1 = 0 then ((if (I 1 0) < 12 then (r = (some (.int (((I 1 0) + 1) - 1)), (zS (up2 I 1 0 ((I 1 0) + 1)) J tg))) else (r = (some (.int (-1)), (zS I J tg))))) else ((if (I 1 1) < 12 then (r = (some (.int ((12 + ((I 1 1) + 1)) - 1)), (zS (up2 I 1 1 ((I 1 1) + 1)) J tg))) else (r = (some (.int (-1)), (zS I J tg)))))))) : Runs (GW L xs) d 116 (0, [.ref 0, .int a1], [], (zS I J tg)) r := by
  refine Runs.sN 1 (c' := (1, [.ref 0, .int a1], [.int a1], (zS I J tg))) rfl ?_
  by_cases c1 : a1 = 0
  · rw [if_pos c1] at h
    refine Runs.brT (P := a1 = 0) (a := 44) (b := 4) (L := [.ref 0, .int a1]) (S := []) (z := (zS I J tg)) rfl c1 ?_
    refine Runs.sN 4 (c' := (53, [.ref 0, .int a1], [.int 12, .int (I 1 0)], (zS I J tg))) rfl ?_
    by_cases c2 : (I 1 0) < 12
    · rw [if_pos c2] at h
      refine Runs.brT (P := (I 1 0) < 12) (a := 58) (b := 56) (L := [.ref 0, .int a1]) (S := []) (z := (zS I J tg)) rfl c2 ?_
      refine Runs.sN 12 (c' := (80, [.ref 0, .int a1], [.int (((I 1 0) + 1) - 1)], (zS (up2 I 1 0 ((I 1 0) + 1)) J tg))) rfl ?_
      subst h
      exact Runs.rt rfl
    · rw [if_neg c2] at h
      refine Runs.brF (P := (I 1 0) < 12) (a := 58) (b := 56) (L := [.ref 0, .int a1]) (S := []) (z := (zS I J tg)) rfl c2 ?_
      refine Runs.sN 1 (c' := (57, [.ref 0, .int a1], [.int (-1)], (zS I J tg))) rfl ?_
      subst h
      exact Runs.rt rfl
  · rw [if_neg c1] at h
    refine Runs.brF (P := a1 = 0) (a := 44) (b := 4) (L := [.ref 0, .int a1]) (S := []) (z := (zS I J tg)) rfl c1 ?_
    refine Runs.sN 4 (c' := (13, [.ref 0, .int a1], [.int 12, .int (I 1 1)], (zS I J tg))) rfl ?_
    by_cases c3 : (I 1 1) < 12
    · rw [if_pos c3] at h
      refine Runs.brT (P := (I 1 1) < 12) (a := 18) (b := 16) (L := [.ref 0, .int a1]) (S := []) (z := (zS I J tg)) rfl c3 ?_
      refine Runs.sN 14 (c' := (43, [.ref 0, .int a1], [.int ((12 + ((I 1 1) + 1)) - 1)], (zS (up2 I 1 1 ((I 1 1) + 1)) J tg))) rfl ?_
      subst h
      exact Runs.rt rfl
    · rw [if_neg c3] at h
      refine Runs.brF (P := (I 1 1) < 12) (a := 18) (b := 16) (L := [.ref 0, .int a1]) (S := []) (z := (zS I J tg)) rfl c3 ?_
      refine Runs.sN 1 (c' := (17, [.ref 0, .int a1], [.int (-1)], (zS I J tg))) rfl ?_
      subst h
      exact Runs.rt rfl
theorem sg_109 {L d : Nat} {xs : Nat → Int32} (I : Nat → Nat → Int32) (J : Nat → Nat → Int64) (tg : Option Nat) {r : Option Value × SS} (h : (Runs (GW L xs) d 109 (4, [.ref 7, .int 0, .int 0], [], (zS I J tg)) r)) : Runs (GW L xs) d 109 (0, [.ref 7, vU, vU], [], (zS I J tg)) r := by
  refine Runs.sN 4 (c' := (4, [.ref 7, .int 0, .int 0], [], (zS I J tg))) rfl ?_
  exact h
theorem sg_184 {L d : Nat} {xs : Nat → Int32} (I : Nat → Nat → Int32) (J : Nat → Nat → Int64) (tg : Option Nat) (a1 : Int32) (a2 : Int32) {r : Option Value × SS} (h : (¬ (((20 + (22 * a1)) + a2) < 0 ∨ 1200 ≤ ((20 + (22 * a1)) + a2).toNatClampNeg) ∧ r = (some (.int (I 94 (((20 + (22 * a1)) + a2).toNatClampNeg))), (zS I J tg)))) : Runs (GW L xs) d 184 (0, [.ref 93, .int a1, .int a2], [], (zS I J tg)) r := by
  refine Runs.sN 9 (c' := (13, [.ref 93, .int a1, .int a2], [.int ((20 + (22 * a1)) + a2), .ref 94], (zS I J tg))) rfl ?_
  obtain ⟨c1, h⟩ := h
  refine Runs.to (c' := (14, [.ref 93, .int a1, .int a2], [.int (I 94 (((20 + (22 * a1)) + a2).toNatClampNeg))], (zS I J tg))) (Runs.ild rfl (show (94 : Nat) < 114 by decide) rfl c1) ?_
  subst h
  exact Runs.rt rfl
theorem sg_177 {L d : Nat} {xs : Nat → Int32} (I : Nat → Nat → Int32) (J : Nat → Nat → Int64) (tg : Option Nat) (a1 : Int32) (a2 : Int32) (a3 : Int32) {r : Option Value × SS} (h : ((if a1 < a2 then (r = (some (.int 0), (zS I J tg))) else ((if a3 < a1 then (r = (some (.int 0), (zS I J tg))) else (r = (some (.int 1), (zS I J tg)))))))) : Runs (GW L xs) d 177 (0, [.int a1, .int a2, .int a3], [], (zS I J tg)) r := by
  refine Runs.sN 2 (c' := (2, [.int a1, .int a2, .int a3], [.int a2, .int a1], (zS I J tg))) rfl ?_
  by_cases c1 : a1 < a2
  · rw [if_pos c1] at h
    refine Runs.brT (P := a1 < a2) (a := 14) (b := 5) (L := [.int a1, .int a2, .int a3]) (S := []) (z := (zS I J tg)) rfl c1 ?_
    refine Runs.sN 1 (c' := (15, [.int a1, .int a2, .int a3], [.int 0], (zS I J tg))) rfl ?_
    subst h
    exact Runs.rt rfl
  · rw [if_neg c1] at h
    refine Runs.brF (P := a1 < a2) (a := 14) (b := 5) (L := [.int a1, .int a2, .int a3]) (S := []) (z := (zS I J tg)) rfl c1 ?_
    refine Runs.sN 2 (c' := (7, [.int a1, .int a2, .int a3], [.int a3, .int a1], (zS I J tg))) rfl ?_
    by_cases c2 : a3 < a1
    · rw [if_pos c2] at h
      refine Runs.brT (P := a3 < a1) (a := 14) (b := 10) (L := [.int a1, .int a2, .int a3]) (S := []) (z := (zS I J tg)) rfl c2 ?_
      refine Runs.sN 1 (c' := (15, [.int a1, .int a2, .int a3], [.int 0], (zS I J tg))) rfl ?_
      subst h
      exact Runs.rt rfl
    · rw [if_neg c2] at h
      refine Runs.brF (P := a3 < a1) (a := 14) (b := 10) (L := [.int a1, .int a2, .int a3]) (S := []) (z := (zS I J tg)) rfl c2 ?_
      refine Runs.sN 2 (c' := (15, [.int a1, .int a2, .int a3], [.int 1], (zS I J tg))) rfl ?_
      subst h
      exact Runs.rt rfl
theorem sg_181 {L d : Nat} {xs : Nat → Int32} (I : Nat → Nat → Int32) (J : Nat → Nat → Int64) (tg : Option Nat) (a1 : Int32) {r : Option Value × SS} (h : (∃ (v1 : Int32) (I2 : Nat → Nat → Int32) (J3 : Nat → Nat → Int64) (tg4 : Option Nat), Runs (GW L xs) d 179 (0, [.ref 93, .int a1], [], (zS I J tg)) ((some (.int v1)), (zS I2 J3 tg4)) ∧ (if v1 = 0 then (∃ (v5 : Int32) (I6 : Nat → Nat → Int32) (J7 : Nat → Nat → Int64) (tg8 : Option Nat), Runs (GW L xs) d 180 (0, [.ref 93, .int a1], [], (zS I2 J3 tg4)) ((some (.int v5)), (zS I6 J7 tg8)) ∧ (if v5 = 0 then (r = (some (.int 0), (zS I6 J7 tg8))) else (r = (some (.int 1), (zS I6 J7 tg8))))) else (r = (some (.int 1), (zS I2 J3 tg4)))))) : Runs (GW L xs) (d + 1) 181 (0, [.ref 93, .int a1], [], (zS I J tg)) r := by
  refine Runs.sN 2 (c' := (2, [.ref 93, .int a1], [.int a1, .ref 93], (zS I J tg))) rfl ?_
  obtain ⟨v1, I2, J3, tg4, c9, h⟩ := h
  refine Runs.cl (cm := 179) (as := [.ref 93, .int a1]) (rest := []) (r1 := ((some (.int v1)), (zS I2 J3 tg4))) rfl (Nat.le_of_ble_eq_true rfl) c9 ?_
  refine Runs.as (c' := (5, [.ref 93, .int a1], [.int v1], (zS I2 J3 tg4))) rfl ?_
  by_cases c10 : v1 = 0
  · rw [if_pos c10] at h
    refine Runs.brT (P := v1 = 0) (a := 8) (b := 16) (L := [.ref 93, .int a1]) (S := []) (z := (zS I2 J3 tg4)) rfl c10 ?_
    refine Runs.sN 2 (c' := (10, [.ref 93, .int a1], [.int a1, .ref 93], (zS I2 J3 tg4))) rfl ?_
    obtain ⟨v5, I6, J7, tg8, c11, h⟩ := h
    refine Runs.cl (cm := 180) (as := [.ref 93, .int a1]) (rest := []) (r1 := ((some (.int v5)), (zS I6 J7 tg8))) rfl (Nat.le_of_ble_eq_true rfl) c11 ?_
    refine Runs.as (c' := (13, [.ref 93, .int a1], [.int v5], (zS I6 J7 tg8))) rfl ?_
    by_cases c12 : v5 = 0
    · rw [if_pos c12] at h
      refine Runs.brT (P := v5 = 0) (a := 20) (b := 16) (L := [.ref 93, .int a1]) (S := []) (z := (zS I6 J7 tg8)) rfl c12 ?_
      refine Runs.sN 1 (c' := (21, [.ref 93, .int a1], [.int 0], (zS I6 J7 tg8))) rfl ?_
      subst h
      exact Runs.rt rfl
    · rw [if_neg c12] at h
      refine Runs.brF (P := v5 = 0) (a := 20) (b := 16) (L := [.ref 93, .int a1]) (S := []) (z := (zS I6 J7 tg8)) rfl c12 ?_
      refine Runs.sN 2 (c' := (21, [.ref 93, .int a1], [.int 1], (zS I6 J7 tg8))) rfl ?_
      subst h
      exact Runs.rt rfl
  · rw [if_neg c10] at h
    refine Runs.brF (P := v1 = 0) (a := 8) (b := 16) (L := [.ref 93, .int a1]) (S := []) (z := (zS I2 J3 tg4)) rfl c10 ?_
    refine Runs.sN 2 (c' := (21, [.ref 93, .int a1], [.int 1], (zS I2 J3 tg4))) rfl ?_
    subst h
    exact Runs.rt rfl
theorem sg_185 {L d : Nat} {xs : Nat → Int32} (I : Nat → Nat → Int32) (J : Nat → Nat → Int64) (tg : Option Nat) (a1 : Int32) {r : Option Value × SS} (h : (Runs (GW L xs) d 185 (4, [.int a1, .int 0, .int 0], [], (zS I J tg)) r)) : Runs (GW L xs) d 185 (0, [.int a1, vU, vU], [], (zS I J tg)) r := by
  refine Runs.sN 4 (c' := (4, [.int a1, .int 0, .int 0], [], (zS I J tg))) rfl ?_
  exact h
theorem sg_282 {L d : Nat} {xs : Nat → Int32} (I : Nat → Nat → Int32) (J : Nat → Nat → Int64) (tg : Option Nat) (a1 : Int32) (a2 : Int32) {r : Option Value × SS} (h : (∃ (v1 : Int32) (I2 : Nat → Nat → Int32) (J3 : Nat → Nat → Int64) (tg4 : Option Nat), Runs (GW L xs) d 179 (0, [.ref 93, .int a1], [], (zS I J tg)) ((some (.int v1)), (zS I2 J3 tg4)) ∧ (if v1 = 0 then (r = (some (.int (-1)), (zS I2 J3 tg4))) else (∃ (v5 : Int32) (I6 : Nat → Nat → Int32) (J7 : Nat → Nat → Int64) (tg8 : Option Nat), Runs (GW L xs) d 182 (0, [.int a2], [], (zS I2 J3 tg4)) ((some (.int v5)), (zS I6 J7 tg8)) ∧ (if v5 = 0 then (r = (some (.int (-1)), (zS I6 J7 tg8))) else (¬ (((600 + (6 * a1)) + a2) < 0 ∨ 1200 ≤ ((600 + (6 * a1)) + a2).toNatClampNeg) ∧ ∃ (v9 : Int32) (I10 : Nat → Nat → Int32) (J11 : Nat → Nat → Int64) (tg12 : Option Nat), Runs (GW L xs) d 280 (0, [.ref 93, .int (I6 94 (((600 + (6 * a1)) + a2).toNatClampNeg))], [], (zS I6 J7 tg8)) ((some (.int v9)), (zS I10 J11 tg12)) ∧ ¬ (((600 + (6 * a1)) + a2) < 0 ∨ 1200 ≤ ((600 + (6 * a1)) + a2).toNatClampNeg) ∧ ¬ (((600 + (6 * a1)) + a2) < 0 ∨ 1200 ≤ ((600 + (6 * a1)) + a2).toNatClampNeg) ∧ r = (some (.int ((up2 I10 94 (((600 + (6 * a1)) + a2).toNatClampNeg) v9) 94 (((600 + (6 * a1)) + a2).toNatClampNeg))), (zS (up2 I10 94 (((600 + (6 * a1)) + a2).toNatClampNeg) v9) J11 tg12)))))))) : Runs (GW L xs) (d + 1) 282 (0, [.ref 93, .int a1, .int a2], [], (zS I J tg)) r := by
  refine Runs.sN 2 (c' := (2, [.ref 93, .int a1, .int a2], [.int a1, .ref 93], (zS I J tg))) rfl ?_
  obtain ⟨v1, I2, J3, tg4, c13, h⟩ := h
  refine Runs.cl (cm := 179) (as := [.ref 93, .int a1]) (rest := []) (r1 := ((some (.int v1)), (zS I2 J3 tg4))) rfl (Nat.le_of_ble_eq_true rfl) c13 ?_
  refine Runs.as (c' := (5, [.ref 93, .int a1, .int a2], [.int v1], (zS I2 J3 tg4))) rfl ?_
  by_cases c14 : v1 = 0
  · rw [if_pos c14] at h
    refine Runs.brT (P := v1 = 0) (a := 15) (b := 8) (L := [.ref 93, .int a1, .int a2]) (S := []) (z := (zS I2 J3 tg4)) rfl c14 ?_
    refine Runs.sN 1 (c' := (16, [.ref 93, .int a1, .int a2], [.int (-1)], (zS I2 J3 tg4))) rfl ?_
    subst h
    exact Runs.rt rfl
  · rw [if_neg c14] at h
    refine Runs.brF (P := v1 = 0) (a := 15) (b := 8) (L := [.ref 93, .int a1, .int a2]) (S := []) (z := (zS I2 J3 tg4)) rfl c14 ?_
    refine Runs.sN 1 (c' := (9, [.ref 93, .int a1, .int a2], [.int a2], (zS I2 J3 tg4))) rfl ?_
    obtain ⟨v5, I6, J7, tg8, c15, h⟩ := h
    refine Runs.cl (cm := 182) (as := [.int a2]) (rest := []) (r1 := ((some (.int v5)), (zS I6 J7 tg8))) rfl (Nat.le_of_ble_eq_true rfl) c15 ?_
    refine Runs.as (c' := (12, [.ref 93, .int a1, .int a2], [.int v5], (zS I6 J7 tg8))) rfl ?_
    by_cases c16 : v5 = 0
    · rw [if_pos c16] at h
      refine Runs.brT (P := v5 = 0) (a := 15) (b := 17) (L := [.ref 93, .int a1, .int a2]) (S := []) (z := (zS I6 J7 tg8)) rfl c16 ?_
      refine Runs.sN 1 (c' := (16, [.ref 93, .int a1, .int a2], [.int (-1)], (zS I6 J7 tg8))) rfl ?_
      subst h
      exact Runs.rt rfl
    · rw [if_neg c16] at h
      refine Runs.brF (P := v5 = 0) (a := 15) (b := 17) (L := [.ref 93, .int a1, .int a2]) (S := []) (z := (zS I6 J7 tg8)) rfl c16 ?_
      refine Runs.sN 19 (c' := (46, [.ref 93, .int a1, .int a2], [.int ((600 + (6 * a1)) + a2), .ref 94, .ref 93, .int ((600 + (6 * a1)) + a2), .ref 94], (zS I6 J7 tg8))) rfl ?_
      obtain ⟨c17, h⟩ := h
      refine Runs.to (c' := (47, [.ref 93, .int a1, .int a2], [.int (I6 94 (((600 + (6 * a1)) + a2).toNatClampNeg)), .ref 93, .int ((600 + (6 * a1)) + a2), .ref 94], (zS I6 J7 tg8))) (Runs.ild rfl (show (94 : Nat) < 114 by decide) rfl c17) ?_
      obtain ⟨v9, I10, J11, tg12, c18, h⟩ := h
      refine Runs.cl (cm := 280) (as := [.ref 93, .int (I6 94 (((600 + (6 * a1)) + a2).toNatClampNeg))]) (rest := [.int ((600 + (6 * a1)) + a2), .ref 94]) (r1 := ((some (.int v9)), (zS I10 J11 tg12))) rfl (Nat.le_of_ble_eq_true rfl) c18 ?_
      refine Runs.as (c' := (50, [.ref 93, .int a1, .int a2], [.int v9, .int ((600 + (6 * a1)) + a2), .ref 94], (zS I10 J11 tg12))) rfl ?_
      obtain ⟨c19, h⟩ := h
      refine Runs.to (c' := (51, [.ref 93, .int a1, .int a2], [], (zS (up2 I10 94 (((600 + (6 * a1)) + a2).toNatClampNeg) v9) J11 tg12))) (Runs.ist rfl (show (94 : Nat) < 114 by decide) rfl c19) ?_
      refine Runs.sN 9 (c' := (65, [.ref 93, .int a1, .int a2], [.int ((600 + (6 * a1)) + a2), .ref 94], (zS (up2 I10 94 (((600 + (6 * a1)) + a2).toNatClampNeg) v9) J11 tg12))) rfl ?_
      obtain ⟨c20, h⟩ := h
      refine Runs.to (c' := (66, [.ref 93, .int a1, .int a2], [.int ((up2 I10 94 (((600 + (6 * a1)) + a2).toNatClampNeg) v9) 94 (((600 + (6 * a1)) + a2).toNatClampNeg))], (zS (up2 I10 94 (((600 + (6 * a1)) + a2).toNatClampNeg) v9) J11 tg12))) (Runs.ild rfl (show (94 : Nat) < 114 by decide) rfl c20) ?_
      subst h
      exact Runs.rt rfl
