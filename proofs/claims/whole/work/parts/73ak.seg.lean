-- X12_look 
theorem sg_186 {L d : Nat} {xs : Nat → Int32} (I : Nat → Nat → Int32) (J : Nat → Nat → Int64) (tg : Option Nat) (a1 : Int32) {r : Option Value × SS} (h : ((if a1 = 0 then ((if (I 94 1) = 12 then (r = (some (.int (-1)), (zS I J tg))) else ((if a1 = 0 then (Runs (GW L xs) d 186 (55, [.ref 93, .int a1, .int (I 94 1), .int (20 + (22 * (I 94 1))), .int 0], [], (zS I J tg)) r) else (Runs (GW L xs) d 186 (55, [.ref 93, .int a1, .int (12 + (I 94 2)), .int (20 + (22 * (12 + (I 94 2)))), .int 0], [], (zS I J tg)) r))))) else ((if (I 94 2) = 12 then (r = (some (.int (-1)), (zS I J tg))) else ((if a1 = 0 then (Runs (GW L xs) d 186 (55, [.ref 93, .int a1, .int (I 94 1), .int (20 + (22 * (I 94 1))), .int 0], [], (zS I J tg)) r) else (Runs (GW L xs) d 186 (55, [.ref 93, .int a1, .int (12 + (I 94 2)), .int (20 + (22 * (12 + (I 94 2)))), .int 0], [], (zS I J tg)) r)))))))) : Runs (GW L xs) d 186 (0, [.ref 93, .int a1, vU, vU, vU], [], (zS I J tg)) r := by
  refine Runs.sN 3 (c' := (5, [.ref 93, .int a1, vU, vU, vU], [.int a1, .ref 94], (zS I J tg))) rfl ?_
  by_cases c1 : a1 = 0
  · rw [if_pos c1] at h
    refine Runs.brT (P := a1 = 0) (a := 12) (b := 8) (L := [.ref 93, .int a1, vU, vU, vU]) (S := [.ref 94]) (z := (zS I J tg)) rfl c1 ?_
    refine Runs.sN 3 (c' := (16, [.ref 93, .int a1, vU, vU, vU], [.int 12, .int (I 94 1)], (zS I J tg))) rfl ?_
    by_cases c2 : (I 94 1) = 12
    · rw [if_pos c2] at h
      refine Runs.brT (P := (I 94 1) = 12) (a := 19) (b := 21) (L := [.ref 93, .int a1, vU, vU, vU]) (S := []) (z := (zS I J tg)) rfl c2 ?_
      refine Runs.sN 1 (c' := (20, [.ref 93, .int a1, vU, vU, vU], [.int (-1)], (zS I J tg))) rfl ?_
      subst h
      exact Runs.rt rfl
    · rw [if_neg c2] at h
      refine Runs.brF (P := (I 94 1) = 12) (a := 19) (b := 21) (L := [.ref 93, .int a1, vU, vU, vU]) (S := []) (z := (zS I J tg)) rfl c2 ?_
      refine Runs.sN 1 (c' := (22, [.ref 93, .int a1, vU, vU, vU], [.int a1], (zS I J tg))) rfl ?_
      by_cases c3 : a1 = 0
      · rw [if_pos c3] at h
        refine Runs.brT (P := a1 = 0) (a := 37) (b := 25) (L := [.ref 93, .int a1, vU, vU, vU]) (S := []) (z := (zS I J tg)) rfl c3 ?_
        refine Runs.sN 13 (c' := (55, [.ref 93, .int a1, .int (I 94 1), .int (20 + (22 * (I 94 1))), .int 0], [], (zS I J tg))) rfl ?_
        exact h
      · rw [if_neg c3] at h
        refine Runs.brF (P := a1 = 0) (a := 37) (b := 25) (L := [.ref 93, .int a1, vU, vU, vU]) (S := []) (z := (zS I J tg)) rfl c3 ?_
        refine Runs.sN 16 (c' := (55, [.ref 93, .int a1, .int (12 + (I 94 2)), .int (20 + (22 * (12 + (I 94 2)))), .int 0], [], (zS I J tg))) rfl ?_
        exact h
  · rw [if_neg c1] at h
    refine Runs.brF (P := a1 = 0) (a := 12) (b := 8) (L := [.ref 93, .int a1, vU, vU, vU]) (S := [.ref 94]) (z := (zS I J tg)) rfl c1 ?_
    refine Runs.sN 4 (c' := (16, [.ref 93, .int a1, vU, vU, vU], [.int 12, .int (I 94 2)], (zS I J tg))) rfl ?_
    by_cases c4 : (I 94 2) = 12
    · rw [if_pos c4] at h
      refine Runs.brT (P := (I 94 2) = 12) (a := 19) (b := 21) (L := [.ref 93, .int a1, vU, vU, vU]) (S := []) (z := (zS I J tg)) rfl c4 ?_
      refine Runs.sN 1 (c' := (20, [.ref 93, .int a1, vU, vU, vU], [.int (-1)], (zS I J tg))) rfl ?_
      subst h
      exact Runs.rt rfl
    · rw [if_neg c4] at h
      refine Runs.brF (P := (I 94 2) = 12) (a := 19) (b := 21) (L := [.ref 93, .int a1, vU, vU, vU]) (S := []) (z := (zS I J tg)) rfl c4 ?_
      refine Runs.sN 1 (c' := (22, [.ref 93, .int a1, vU, vU, vU], [.int a1], (zS I J tg))) rfl ?_
      by_cases c5 : a1 = 0
      · rw [if_pos c5] at h
        refine Runs.brT (P := a1 = 0) (a := 37) (b := 25) (L := [.ref 93, .int a1, vU, vU, vU]) (S := []) (z := (zS I J tg)) rfl c5 ?_
        refine Runs.sN 13 (c' := (55, [.ref 93, .int a1, .int (I 94 1), .int (20 + (22 * (I 94 1))), .int 0], [], (zS I J tg))) rfl ?_
        exact h
      · rw [if_neg c5] at h
        refine Runs.brF (P := a1 = 0) (a := 37) (b := 25) (L := [.ref 93, .int a1, vU, vU, vU]) (S := []) (z := (zS I J tg)) rfl c5 ?_
        refine Runs.sN 16 (c' := (55, [.ref 93, .int a1, .int (12 + (I 94 2)), .int (20 + (22 * (12 + (I 94 2)))), .int 0], [], (zS I J tg))) rfl ?_
        exact h
theorem sg_186_55 {L d : Nat} {xs : Nat → Int32} (I : Nat → Nat → Int32) (J : Nat → Nat → Int64) (tg : Option Nat) (x1 : Int32) (x2 : Int32) (x3 : Int32) (x4 : Int32) {r : Option Value × SS} (h : ((if 22 ≤ x4 then (¬ ((x3 + 2) < 0 ∨ 1200 ≤ (x3 + 2).toNatClampNeg) ∧ Runs (GW L xs) d 186 (90, [.ref 93, .int x1, .int x2, .int x3, .int 0], [], (zS (up2 I 94 ((x3 + 2).toNatClampNeg) (-1)) J tg)) r) else (¬ ((x3 + x4) < 0 ∨ 1200 ≤ (x3 + x4).toNatClampNeg) ∧ Runs (GW L xs) d 186 (55, [.ref 93, .int x1, .int x2, .int x3, .int (x4 + 1)], [], (zS (up2 I 94 ((x3 + x4).toNatClampNeg) 0) J tg)) r)))) : Runs (GW L xs) d 186 (55, [.ref 93, .int x1, .int x2, .int x3, .int x4], [], (zS I J tg)) r := by
  refine Runs.sN 2 (c' := (59, [.ref 93, .int x1, .int x2, .int x3, .int x4], [.int 22, .int x4], (zS I J tg))) rfl ?_
  by_cases c1 : 22 ≤ x4
  · rw [if_pos c1] at h
    refine Runs.brT (P := 22 ≤ x4) (a := 78) (b := 62) (L := [.ref 93, .int x1, .int x2, .int x3, .int x4]) (S := []) (z := (zS I J tg)) rfl c1 ?_
    refine Runs.sN 6 (c' := (86, [.ref 93, .int x1, .int x2, .int x3, .int x4], [.int (-1), .int (x3 + 2), .ref 94], (zS I J tg))) rfl ?_
    obtain ⟨c2, h⟩ := h
    refine Runs.to (c' := (87, [.ref 93, .int x1, .int x2, .int x3, .int x4], [], (zS (up2 I 94 ((x3 + 2).toNatClampNeg) (-1)) J tg))) (Runs.ist rfl (show (94 : Nat) < 114 by decide) rfl c2) ?_
    refine Runs.sN 2 (c' := (90, [.ref 93, .int x1, .int x2, .int x3, .int 0], [], (zS (up2 I 94 ((x3 + 2).toNatClampNeg) (-1)) J tg))) rfl ?_
    exact h
  · rw [if_neg c1] at h
    refine Runs.brF (P := 22 ≤ x4) (a := 78) (b := 62) (L := [.ref 93, .int x1, .int x2, .int x3, .int x4]) (S := []) (z := (zS I J tg)) rfl c1 ?_
    refine Runs.sN 6 (c' := (71, [.ref 93, .int x1, .int x2, .int x3, .int x4], [.int 0, .int (x3 + x4), .ref 94], (zS I J tg))) rfl ?_
    obtain ⟨c3, h⟩ := h
    refine Runs.to (c' := (72, [.ref 93, .int x1, .int x2, .int x3, .int x4], [], (zS (up2 I 94 ((x3 + x4).toNatClampNeg) 0) J tg))) (Runs.ist rfl (show (94 : Nat) < 114 by decide) rfl c3) ?_
    refine Runs.sN 2 (c' := (55, [.ref 93, .int x1, .int x2, .int x3, .int (x4 + 1)], [], (zS (up2 I 94 ((x3 + x4).toNatClampNeg) 0) J tg))) rfl ?_
    exact h
theorem sg_186_90 {L d : Nat} {xs : Nat → Int32} (I : Nat → Nat → Int32) (J : Nat → Nat → Int64) (tg : Option Nat) (x1 : Int32) (x2 : Int32) (x3 : Int32) (x4 : Int32) {r : Option Value × SS} (h : ((if 6 ≤ x4 then ((if x1 = 0 then (r = (some (.int x2), (zS (up2 I 94 1 ((I 94 1) + 1)) J tg))) else (r = (some (.int x2), (zS (up2 I 94 2 ((I 94 2) + 1)) J tg))))) else ((if x1 = 0 then (¬ (((600 + (6 * x2)) + x4) < 0 ∨ 1200 ≤ ((600 + (6 * x2)) + x4).toNatClampNeg) ∧ Runs (GW L xs) d 186 (90, [.ref 93, .int x1, .int x2, .int x3, .int (x4 + 1)], [], (zS (up2 I 94 (((600 + (6 * x2)) + x4).toNatClampNeg) 0) J tg)) r) else ((if x1 = 0 then (r = (some (.int x2), (zS (up2 I 94 1 ((I 94 1) + 1)) J tg))) else (r = (some (.int x2), (zS (up2 I 94 2 ((I 94 2) + 1)) J tg)))))))))) : Runs (GW L xs) d 186 (90, [.ref 93, .int x1, .int x2, .int x3, .int x4], [], (zS I J tg)) r := by
  refine Runs.sN 2 (c' := (94, [.ref 93, .int x1, .int x2, .int x3, .int x4], [.int 6, .int x4], (zS I J tg))) rfl ?_
  by_cases c1 : 6 ≤ x4
  · rw [if_pos c1] at h
    refine Runs.brT (P := 6 ≤ x4) (a := 124) (b := 97) (L := [.ref 93, .int x1, .int x2, .int x3, .int x4]) (S := []) (z := (zS I J tg)) rfl c1 ?_
    refine Runs.sN 3 (c' := (129, [.ref 93, .int x1, .int x2, .int x3, .int x4], [.int x1, .ref 94], (zS I J tg))) rfl ?_
    by_cases c2 : x1 = 0
    · rw [if_pos c2] at h
      refine Runs.brT (P := x1 = 0) (a := 136) (b := 132) (L := [.ref 93, .int x1, .int x2, .int x3, .int x4]) (S := [.ref 94]) (z := (zS I J tg)) rfl c2 ?_
      refine Runs.sN 7 (c' := (143, [.ref 93, .int x1, .int x2, .int x3, .int x4], [.int x2], (zS (up2 I 94 1 ((I 94 1) + 1)) J tg))) rfl ?_
      subst h
      exact Runs.rt rfl
    · rw [if_neg c2] at h
      refine Runs.brF (P := x1 = 0) (a := 136) (b := 132) (L := [.ref 93, .int x1, .int x2, .int x3, .int x4]) (S := [.ref 94]) (z := (zS I J tg)) rfl c2 ?_
      refine Runs.sN 8 (c' := (143, [.ref 93, .int x1, .int x2, .int x3, .int x4], [.int x2], (zS (up2 I 94 2 ((I 94 2) + 1)) J tg))) rfl ?_
      subst h
      exact Runs.rt rfl
  · rw [if_neg c1] at h
    refine Runs.brF (P := 6 ≤ x4) (a := 124) (b := 97) (L := [.ref 93, .int x1, .int x2, .int x3, .int x4]) (S := []) (z := (zS I J tg)) rfl c1 ?_
    refine Runs.sN 1 (c' := (98, [.ref 93, .int x1, .int x2, .int x3, .int x4], [.int x1], (zS I J tg))) rfl ?_
    by_cases c3 : x1 = 0
    · rw [if_pos c3] at h
      refine Runs.brT (P := x1 = 0) (a := 101) (b := 124) (L := [.ref 93, .int x1, .int x2, .int x3, .int x4]) (S := []) (z := (zS I J tg)) rfl c3 ?_
      refine Runs.sN 10 (c' := (117, [.ref 93, .int x1, .int x2, .int x3, .int x4], [.int 0, .int ((600 + (6 * x2)) + x4), .ref 94], (zS I J tg))) rfl ?_
      obtain ⟨c4, h⟩ := h
      refine Runs.to (c' := (118, [.ref 93, .int x1, .int x2, .int x3, .int x4], [], (zS (up2 I 94 (((600 + (6 * x2)) + x4).toNatClampNeg) 0) J tg))) (Runs.ist rfl (show (94 : Nat) < 114 by decide) rfl c4) ?_
      refine Runs.sN 2 (c' := (90, [.ref 93, .int x1, .int x2, .int x3, .int (x4 + 1)], [], (zS (up2 I 94 (((600 + (6 * x2)) + x4).toNatClampNeg) 0) J tg))) rfl ?_
      exact h
    · rw [if_neg c3] at h
      refine Runs.brF (P := x1 = 0) (a := 101) (b := 124) (L := [.ref 93, .int x1, .int x2, .int x3, .int x4]) (S := []) (z := (zS I J tg)) rfl c3 ?_
      refine Runs.sN 3 (c' := (129, [.ref 93, .int x1, .int x2, .int x3, .int x4], [.int x1, .ref 94], (zS I J tg))) rfl ?_
      by_cases c5 : x1 = 0
      · rw [if_pos c5] at h
        refine Runs.brT (P := x1 = 0) (a := 136) (b := 132) (L := [.ref 93, .int x1, .int x2, .int x3, .int x4]) (S := [.ref 94]) (z := (zS I J tg)) rfl c5 ?_
        refine Runs.sN 7 (c' := (143, [.ref 93, .int x1, .int x2, .int x3, .int x4], [.int x2], (zS (up2 I 94 1 ((I 94 1) + 1)) J tg))) rfl ?_
        subst h
        exact Runs.rt rfl
      · rw [if_neg c5] at h
        refine Runs.brF (P := x1 = 0) (a := 136) (b := 132) (L := [.ref 93, .int x1, .int x2, .int x3, .int x4]) (S := [.ref 94]) (z := (zS I J tg)) rfl c5 ?_
        refine Runs.sN 8 (c' := (143, [.ref 93, .int x1, .int x2, .int x3, .int x4], [.int x2], (zS (up2 I 94 2 ((I 94 2) + 1)) J tg))) rfl ?_
        subst h
        exact Runs.rt rfl
-- X12_partOf 
theorem sg_187 {L d : Nat} {xs : Nat → Int32} (I : Nat → Nat → Int32) (J : Nat → Nat → Int64) (tg : Option Nat) (a1 : Int32) (a2 : Int32) (a3 : Int32) {r : Option Value × SS} (h : (r = (some (.int (((36 * a1) + (4 * a2)) + a3)), (zS I J tg)))) : Runs (GW L xs) d 187 (0, [.int a1, .int a2, .int a3], [], (zS I J tg)) r := by
  refine Runs.sN 9 (c' := (10, [.int a1, .int a2, .int a3], [.int (((36 * a1) + (4 * a2)) + a3)], (zS I J tg))) rfl ?_
  subst h
  exact Runs.rt rfl
-- X12_hasPart 
theorem sg_188 {L d : Nat} {xs : Nat → Int32} (I : Nat → Nat → Int32) (J : Nat → Nat → Int64) (tg : Option Nat) (a1 : Int32) (a2 : Int32) {r : Option Value × SS} (h : (Runs (GW L xs) (d + 1) 188 (2, [.ref 93, .int a1, .int a2, .int 0], [], (zS I J tg)) r)) : Runs (GW L xs) (d + 1) 188 (0, [.ref 93, .int a1, .int a2, vU], [], (zS I J tg)) r := by
  refine Runs.sN 2 (c' := (2, [.ref 93, .int a1, .int a2, .int 0], [], (zS I J tg))) rfl ?_
  exact h
theorem sg_188_2 {L d : Nat} {xs : Nat → Int32} (I : Nat → Nat → Int32) (J : Nat → Nat → Int64) (tg : Option Nat) (x1 : Int32) (x2 : Int32) (x3 : Int32) {r : Option Value × SS} (h : (∃ (v1 : Int32) (I2 : Nat → Nat → Int32) (J3 : Nat → Nat → Int64) (tg4 : Option Nat), Runs (GW L xs) d 184 (0, [.ref 93, .int x1, .int 0], [], (zS I J tg)) ((some (.int v1)), (zS I2 J3 tg4)) ∧ (if v1 ≤ x3 then (r = (some (.int 0), (zS I2 J3 tg4))) else (∃ (v5 : Int32) (I6 : Nat → Nat → Int32) (J7 : Nat → Nat → Int64) (tg8 : Option Nat), Runs (GW L xs) d 184 (0, [.ref 93, .int x1, .int (4 + x3)], [], (zS I2 J3 tg4)) ((some (.int v5)), (zS I6 J7 tg8)) ∧ (if v5 = x2 then (r = (some (.int 1), (zS I6 J7 tg8))) else (Runs (GW L xs) (d + 1) 188 (2, [.ref 93, .int x1, .int x2, .int (x3 + 1)], [], (zS I6 J7 tg8)) r)))))) : Runs (GW L xs) (d + 1) 188 (2, [.ref 93, .int x1, .int x2, .int x3], [], (zS I J tg)) r := by
  refine Runs.sN 4 (c' := (6, [.ref 93, .int x1, .int x2, .int x3], [.int 0, .int x1, .ref 93, .int x3], (zS I J tg))) rfl ?_
  obtain ⟨v1, I2, J3, tg4, c9, h⟩ := h
  refine Runs.cl (cm := 184) (as := [.ref 93, .int x1, .int 0]) (rest := [.int x3]) (r1 := ((some (.int v1)), (zS I2 J3 tg4))) rfl (Nat.le_of_ble_eq_true rfl) c9 ?_
  refine Runs.as (c' := (9, [.ref 93, .int x1, .int x2, .int x3], [.int v1, .int x3], (zS I2 J3 tg4))) rfl ?_
  by_cases c10 : v1 ≤ x3
  · rw [if_pos c10] at h
    refine Runs.brT (P := v1 ≤ x3) (a := 32) (b := 12) (L := [.ref 93, .int x1, .int x2, .int x3]) (S := []) (z := (zS I2 J3 tg4)) rfl c10 ?_
    refine Runs.sN 1 (c' := (33, [.ref 93, .int x1, .int x2, .int x3], [.int 0], (zS I2 J3 tg4))) rfl ?_
    subst h
    exact Runs.rt rfl
  · rw [if_neg c10] at h
    refine Runs.brF (P := v1 ≤ x3) (a := 32) (b := 12) (L := [.ref 93, .int x1, .int x2, .int x3]) (S := []) (z := (zS I2 J3 tg4)) rfl c10 ?_
    refine Runs.sN 5 (c' := (17, [.ref 93, .int x1, .int x2, .int x3], [.int (4 + x3), .int x1, .ref 93], (zS I2 J3 tg4))) rfl ?_
    obtain ⟨v5, I6, J7, tg8, c11, h⟩ := h
    refine Runs.cl (cm := 184) (as := [.ref 93, .int x1, .int (4 + x3)]) (rest := []) (r1 := ((some (.int v5)), (zS I6 J7 tg8))) rfl (Nat.le_of_ble_eq_true rfl) c11 ?_
    refine Runs.as (c' := (20, [.ref 93, .int x1, .int x2, .int x3], [.int v5], (zS I6 J7 tg8))) rfl ?_
    refine Runs.sN 1 (c' := (21, [.ref 93, .int x1, .int x2, .int x3], [.int x2, .int v5], (zS I6 J7 tg8))) rfl ?_
    by_cases c12 : v5 = x2
    · rw [if_pos c12] at h
      refine Runs.brT (P := v5 = x2) (a := 24) (b := 26) (L := [.ref 93, .int x1, .int x2, .int x3]) (S := []) (z := (zS I6 J7 tg8)) rfl c12 ?_
      refine Runs.sN 1 (c' := (25, [.ref 93, .int x1, .int x2, .int x3], [.int 1], (zS I6 J7 tg8))) rfl ?_
      subst h
      exact Runs.rt rfl
    · rw [if_neg c12] at h
      refine Runs.brF (P := v5 = x2) (a := 24) (b := 26) (L := [.ref 93, .int x1, .int x2, .int x3]) (S := []) (z := (zS I6 J7 tg8)) rfl c12 ?_
      refine Runs.sN 2 (c' := (2, [.ref 93, .int x1, .int x2, .int (x3 + 1)], [], (zS I6 J7 tg8))) rfl ?_
      exact h
-- X12_add 
theorem sg_189 {L d : Nat} {xs : Nat → Int32} (I : Nat → Nat → Int32) (J : Nat → Nat → Int64) (tg : Option Nat) (a1 : Int32) (a2 : Int32) {r : Option Value × SS} (h : (¬ ((20 + (22 * a1)) < 0 ∨ 1200 ≤ (20 + (22 * a1)).toNatClampNeg) ∧ ¬ ((((20 + (22 * a1)) + 4) + (I 94 ((20 + (22 * a1)).toNatClampNeg))) < 0 ∨ 1200 ≤ (((20 + (22 * a1)) + 4) + (I 94 ((20 + (22 * a1)).toNatClampNeg))).toNatClampNeg) ∧ ¬ ((20 + (22 * a1)) < 0 ∨ 1200 ≤ (20 + (22 * a1)).toNatClampNeg) ∧ ¬ ((20 + (22 * a1)) < 0 ∨ 1200 ≤ (20 + (22 * a1)).toNatClampNeg) ∧ r = (none, (zS (up2 (up2 I 94 ((((20 + (22 * a1)) + 4) + (I 94 ((20 + (22 * a1)).toNatClampNeg))).toNatClampNeg) a2) 94 ((20 + (22 * a1)).toNatClampNeg) (((up2 I 94 ((((20 + (22 * a1)) + 4) + (I 94 ((20 + (22 * a1)).toNatClampNeg))).toNatClampNeg) a2) 94 ((20 + (22 * a1)).toNatClampNeg)) + 1)) J tg)))) : Runs (GW L xs) d 189 (0, [.ref 93, .int a1, .int a2, vU], [], (zS I J tg)) r := by
  refine Runs.sN 14 (c' := (20, [.ref 93, .int a1, .int a2, .int (20 + (22 * a1))], [.int (20 + (22 * a1)), .ref 94, .int ((20 + (22 * a1)) + 4), .ref 94], (zS I J tg))) rfl ?_
  obtain ⟨c1, h⟩ := h
  refine Runs.to (c' := (21, [.ref 93, .int a1, .int a2, .int (20 + (22 * a1))], [.int (I 94 ((20 + (22 * a1)).toNatClampNeg)), .int ((20 + (22 * a1)) + 4), .ref 94], (zS I J tg))) (Runs.ild rfl (show (94 : Nat) < 114 by decide) rfl c1) ?_
  refine Runs.sN 2 (c' := (23, [.ref 93, .int a1, .int a2, .int (20 + (22 * a1))], [.int a2, .int (((20 + (22 * a1)) + 4) + (I 94 ((20 + (22 * a1)).toNatClampNeg))), .ref 94], (zS I J tg))) rfl ?_
  obtain ⟨c2, h⟩ := h
  refine Runs.to (c' := (24, [.ref 93, .int a1, .int a2, .int (20 + (22 * a1))], [], (zS (up2 I 94 ((((20 + (22 * a1)) + 4) + (I 94 ((20 + (22 * a1)).toNatClampNeg))).toNatClampNeg) a2) J tg))) (Runs.ist rfl (show (94 : Nat) < 114 by decide) rfl c2) ?_
  refine Runs.sN 4 (c' := (30, [.ref 93, .int a1, .int a2, .int (20 + (22 * a1))], [.int (20 + (22 * a1)), .ref 94, .int (20 + (22 * a1)), .ref 94], (zS (up2 I 94 ((((20 + (22 * a1)) + 4) + (I 94 ((20 + (22 * a1)).toNatClampNeg))).toNatClampNeg) a2) J tg))) rfl ?_
  obtain ⟨c3, h⟩ := h
  refine Runs.to (c' := (31, [.ref 93, .int a1, .int a2, .int (20 + (22 * a1))], [.int ((up2 I 94 ((((20 + (22 * a1)) + 4) + (I 94 ((20 + (22 * a1)).toNatClampNeg))).toNatClampNeg) a2) 94 ((20 + (22 * a1)).toNatClampNeg)), .int (20 + (22 * a1)), .ref 94], (zS (up2 I 94 ((((20 + (22 * a1)) + 4) + (I 94 ((20 + (22 * a1)).toNatClampNeg))).toNatClampNeg) a2) J tg))) (Runs.ild rfl (show (94 : Nat) < 114 by decide) rfl c3) ?_
  refine Runs.sN 2 (c' := (33, [.ref 93, .int a1, .int a2, .int (20 + (22 * a1))], [.int (((up2 I 94 ((((20 + (22 * a1)) + 4) + (I 94 ((20 + (22 * a1)).toNatClampNeg))).toNatClampNeg) a2) 94 ((20 + (22 * a1)).toNatClampNeg)) + 1), .int (20 + (22 * a1)), .ref 94], (zS (up2 I 94 ((((20 + (22 * a1)) + 4) + (I 94 ((20 + (22 * a1)).toNatClampNeg))).toNatClampNeg) a2) J tg))) rfl ?_
  obtain ⟨c4, h⟩ := h
  refine Runs.to (c' := (34, [.ref 93, .int a1, .int a2, .int (20 + (22 * a1))], [], (zS (up2 (up2 I 94 ((((20 + (22 * a1)) + 4) + (I 94 ((20 + (22 * a1)).toNatClampNeg))).toNatClampNeg) a2) 94 ((20 + (22 * a1)).toNatClampNeg) (((up2 I 94 ((((20 + (22 * a1)) + 4) + (I 94 ((20 + (22 * a1)).toNatClampNeg))).toNatClampNeg) a2) 94 ((20 + (22 * a1)).toNatClampNeg)) + 1)) J tg))) (Runs.ist rfl (show (94 : Nat) < 114 by decide) rfl c4) ?_
  subst h
  exact Runs.rt rfl
-- X12_part 
theorem sg_190 {L d : Nat} {xs : Nat → Int32} (I : Nat → Nat → Int32) (J : Nat → Nat → Int64) (tg : Option Nat) (a1 : Int32) (a2 : Int32) (a3 : Int32) (a4 : Int32) {r : Option Value × SS} (h : (∃ (v32 : Int32) (I33 : Nat → Nat → Int32) (J34 : Nat → Nat → Int64) (tg35 : Option Nat), Runs (GW L xs) d 181 (0, [.ref 93, .int a1], [], (zS I J tg)) ((some (.int v32)), (zS I33 J34 tg35)) ∧ (if v32 = 0 then (r = (some (.int (-1)), (zS I33 J34 tg35))) else (∃ (v36 : Int32) (I37 : Nat → Nat → Int32) (J38 : Nat → Nat → Int64) (tg39 : Option Nat), Runs (GW L xs) d 183 (0, [.int a2, .int a3, .int a4], [], (zS I33 J34 tg35)) ((some (.int v36)), (zS I37 J38 tg39)) ∧ (if v36 = 0 then (r = (some (.int (-1)), (zS I37 J38 tg39))) else (∃ (v40 : Int32) (I41 : Nat → Nat → Int32) (J42 : Nat → Nat → Int64) (tg43 : Option Nat), Runs (GW L xs) d 187 (0, [.int a2, .int a3, .int a4], [], (zS I37 J38 tg39)) ((some (.int v40)), (zS I41 J42 tg43)) ∧ ∃ (v44 : Int32) (I45 : Nat → Nat → Int32) (J46 : Nat → Nat → Int64) (tg47 : Option Nat), Runs (GW L xs) d 188 (0, [.ref 93, .int a1, .int v40, vU], [], (zS I41 J42 tg43)) ((some (.int v44)), (zS I45 J46 tg47)) ∧ (if v44 = 0 then (∃ (v48 : Int32) (I49 : Nat → Nat → Int32) (J50 : Nat → Nat → Int64) (tg51 : Option Nat), Runs (GW L xs) d 184 (0, [.ref 93, .int a1, .int 0], [], (zS I45 J46 tg47)) ((some (.int v48)), (zS I49 J50 tg51)) ∧ (if v48 = 6 then (r = (some (.int (-1)), (zS I49 J50 tg51))) else (∃ (v52 : Int32) (I53 : Nat → Nat → Int32) (J54 : Nat → Nat → Int64) (tg55 : Option Nat), Runs (GW L xs) d 187 (0, [.int a2, .int a3, .int a4], [], (zS I49 J50 tg51)) ((some (.int v52)), (zS I53 J54 tg55)) ∧ ∃ (I56 : Nat → Nat → Int32) (J57 : Nat → Nat → Int64) (tg58 : Option Nat), Runs (GW L xs) d 189 (0, [.ref 93, .int a1, .int v52, vU], [], (zS I53 J54 tg55)) (none, (zS I56 J57 tg58)) ∧ ∃ (v59 : Int32) (I60 : Nat → Nat → Int32) (J61 : Nat → Nat → Int64) (tg62 : Option Nat), Runs (GW L xs) d 184 (0, [.ref 93, .int a1, .int 0], [], (zS I56 J57 tg58)) ((some (.int v59)), (zS I60 J61 tg62)) ∧ r = (some (.int v59), (zS I60 J61 tg62))))) else (r = (some (.int (-1)), (zS I45 J46 tg47)))))))))) : Runs (GW L xs) (d + 1) 190 (0, [.ref 93, .int a1, .int a2, .int a3, .int a4], [], (zS I J tg)) r := by
  refine Runs.sN 2 (c' := (2, [.ref 93, .int a1, .int a2, .int a3, .int a4], [.int a1, .ref 93], (zS I J tg))) rfl ?_
  obtain ⟨v32, I33, J34, tg35, c63, h⟩ := h
  refine Runs.cl (cm := 181) (as := [.ref 93, .int a1]) (rest := []) (r1 := ((some (.int v32)), (zS I33 J34 tg35))) rfl (Nat.le_of_ble_eq_true rfl) c63 ?_
  refine Runs.as (c' := (5, [.ref 93, .int a1, .int a2, .int a3, .int a4], [.int v32], (zS I33 J34 tg35))) rfl ?_
  by_cases c64 : v32 = 0
  · rw [if_pos c64] at h
    refine Runs.brT (P := v32 = 0) (a := 44) (b := 8) (L := [.ref 93, .int a1, .int a2, .int a3, .int a4]) (S := []) (z := (zS I33 J34 tg35)) rfl c64 ?_
    refine Runs.sN 1 (c' := (45, [.ref 93, .int a1, .int a2, .int a3, .int a4], [.int (-1)], (zS I33 J34 tg35))) rfl ?_
    subst h
    exact Runs.rt rfl
  · rw [if_neg c64] at h
    refine Runs.brF (P := v32 = 0) (a := 44) (b := 8) (L := [.ref 93, .int a1, .int a2, .int a3, .int a4]) (S := []) (z := (zS I33 J34 tg35)) rfl c64 ?_
    refine Runs.sN 3 (c' := (12, [.ref 93, .int a1, .int a2, .int a3, .int a4], [.int a4, .int a3, .int a2], (zS I33 J34 tg35))) rfl ?_
    obtain ⟨v36, I37, J38, tg39, c65, h⟩ := h
    refine Runs.cl (cm := 183) (as := [.int a2, .int a3, .int a4]) (rest := []) (r1 := ((some (.int v36)), (zS I37 J38 tg39))) rfl (Nat.le_of_ble_eq_true rfl) c65 ?_
    refine Runs.as (c' := (15, [.ref 93, .int a1, .int a2, .int a3, .int a4], [.int v36], (zS I37 J38 tg39))) rfl ?_
    by_cases c66 : v36 = 0
    · rw [if_pos c66] at h
      refine Runs.brT (P := v36 = 0) (a := 44) (b := 18) (L := [.ref 93, .int a1, .int a2, .int a3, .int a4]) (S := []) (z := (zS I37 J38 tg39)) rfl c66 ?_
      refine Runs.sN 1 (c' := (45, [.ref 93, .int a1, .int a2, .int a3, .int a4], [.int (-1)], (zS I37 J38 tg39))) rfl ?_
      subst h
      exact Runs.rt rfl
    · rw [if_neg c66] at h
      refine Runs.brF (P := v36 = 0) (a := 44) (b := 18) (L := [.ref 93, .int a1, .int a2, .int a3, .int a4]) (S := []) (z := (zS I37 J38 tg39)) rfl c66 ?_
      refine Runs.sN 5 (c' := (24, [.ref 93, .int a1, .int a2, .int a3, .int a4], [.int a4, .int a3, .int a2, .int a1, .ref 93], (zS I37 J38 tg39))) rfl ?_
      obtain ⟨v40, I41, J42, tg43, c67, h⟩ := h
      refine Runs.cl (cm := 187) (as := [.int a2, .int a3, .int a4]) (rest := [.int a1, .ref 93]) (r1 := ((some (.int v40)), (zS I41 J42 tg43))) rfl (Nat.le_of_ble_eq_true rfl) c67 ?_
      refine Runs.as (c' := (27, [.ref 93, .int a1, .int a2, .int a3, .int a4], [.int v40, .int a1, .ref 93], (zS I41 J42 tg43))) rfl ?_
      obtain ⟨v44, I45, J46, tg47, c68, h⟩ := h
      refine Runs.cl (cm := 188) (as := [.ref 93, .int a1, .int v40]) (rest := []) (r1 := ((some (.int v44)), (zS I45 J46 tg47))) rfl (Nat.le_of_ble_eq_true rfl) c68 ?_
      refine Runs.as (c' := (30, [.ref 93, .int a1, .int a2, .int a3, .int a4], [.int v44], (zS I45 J46 tg47))) rfl ?_
      by_cases c69 : v44 = 0
      · rw [if_pos c69] at h
        refine Runs.brT (P := v44 = 0) (a := 33) (b := 44) (L := [.ref 93, .int a1, .int a2, .int a3, .int a4]) (S := []) (z := (zS I45 J46 tg47)) rfl c69 ?_
        refine Runs.sN 3 (c' := (36, [.ref 93, .int a1, .int a2, .int a3, .int a4], [.int 0, .int a1, .ref 93], (zS I45 J46 tg47))) rfl ?_
        obtain ⟨v48, I49, J50, tg51, c70, h⟩ := h
        refine Runs.cl (cm := 184) (as := [.ref 93, .int a1, .int 0]) (rest := []) (r1 := ((some (.int v48)), (zS I49 J50 tg51))) rfl (Nat.le_of_ble_eq_true rfl) c70 ?_
        refine Runs.as (c' := (39, [.ref 93, .int a1, .int a2, .int a3, .int a4], [.int v48], (zS I49 J50 tg51))) rfl ?_
        refine Runs.sN 1 (c' := (41, [.ref 93, .int a1, .int a2, .int a3, .int a4], [.int 6, .int v48], (zS I49 J50 tg51))) rfl ?_
        by_cases c71 : v48 = 6
        · rw [if_pos c71] at h
          refine Runs.brT (P := v48 = 6) (a := 44) (b := 46) (L := [.ref 93, .int a1, .int a2, .int a3, .int a4]) (S := []) (z := (zS I49 J50 tg51)) rfl c71 ?_
          refine Runs.sN 1 (c' := (45, [.ref 93, .int a1, .int a2, .int a3, .int a4], [.int (-1)], (zS I49 J50 tg51))) rfl ?_
          subst h
          exact Runs.rt rfl
        · rw [if_neg c71] at h
          refine Runs.brF (P := v48 = 6) (a := 44) (b := 46) (L := [.ref 93, .int a1, .int a2, .int a3, .int a4]) (S := []) (z := (zS I49 J50 tg51)) rfl c71 ?_
          refine Runs.sN 5 (c' := (52, [.ref 93, .int a1, .int a2, .int a3, .int a4], [.int a4, .int a3, .int a2, .int a1, .ref 93], (zS I49 J50 tg51))) rfl ?_
          obtain ⟨v52, I53, J54, tg55, c72, h⟩ := h
          refine Runs.cl (cm := 187) (as := [.int a2, .int a3, .int a4]) (rest := [.int a1, .ref 93]) (r1 := ((some (.int v52)), (zS I53 J54 tg55))) rfl (Nat.le_of_ble_eq_true rfl) c72 ?_
          refine Runs.as (c' := (55, [.ref 93, .int a1, .int a2, .int a3, .int a4], [.int v52, .int a1, .ref 93], (zS I53 J54 tg55))) rfl ?_
          obtain ⟨I56, J57, tg58, c73, h⟩ := h
          refine Runs.cl (cm := 189) (as := [.ref 93, .int a1, .int v52]) (rest := []) (r1 := (none, (zS I56 J57 tg58))) rfl (Nat.le_of_ble_eq_true rfl) c73 ?_
          refine Runs.as (c' := (58, [.ref 93, .int a1, .int a2, .int a3, .int a4], [], (zS I56 J57 tg58))) rfl ?_
          refine Runs.sN 3 (c' := (61, [.ref 93, .int a1, .int a2, .int a3, .int a4], [.int 0, .int a1, .ref 93], (zS I56 J57 tg58))) rfl ?_
          obtain ⟨v59, I60, J61, tg62, c74, h⟩ := h
          refine Runs.cl (cm := 184) (as := [.ref 93, .int a1, .int 0]) (rest := []) (r1 := ((some (.int v59)), (zS I60 J61 tg62))) rfl (Nat.le_of_ble_eq_true rfl) c74 ?_
          refine Runs.as (c' := (64, [.ref 93, .int a1, .int a2, .int a3, .int a4], [.int v59], (zS I60 J61 tg62))) rfl ?_
          subst h
          exact Runs.rt rfl
      · rw [if_neg c69] at h
        refine Runs.brF (P := v44 = 0) (a := 33) (b := 44) (L := [.ref 93, .int a1, .int a2, .int a3, .int a4]) (S := []) (z := (zS I45 J46 tg47)) rfl c69 ?_
        refine Runs.sN 1 (c' := (45, [.ref 93, .int a1, .int a2, .int a3, .int a4], [.int (-1)], (zS I45 J46 tg47))) rfl ?_
        subst h
        exact Runs.rt rfl
-- X12_clear 
theorem sg_191 {L d : Nat} {xs : Nat → Int32} (I : Nat → Nat → Int32) (J : Nat → Nat → Int64) (tg : Option Nat) (a1 : Int32) {r : Option Value × SS} (h : (∃ (v9 : Int32) (I10 : Nat → Nat → Int32) (J11 : Nat → Nat → Int64) (tg12 : Option Nat), Runs (GW L xs) d 181 (0, [.ref 93, .int a1], [], (zS I J tg)) ((some (.int v9)), (zS I10 J11 tg12)) ∧ (if v9 = 0 then (r = (some (.int (-1)), (zS I10 J11 tg12))) else (∃ (v13 : Int32) (I14 : Nat → Nat → Int32) (J15 : Nat → Nat → Int64) (tg16 : Option Nat), Runs (GW L xs) d 184 (0, [.ref 93, .int a1, .int 0], [], (zS I10 J11 tg12)) ((some (.int v13)), (zS I14 J15 tg16)) ∧ ¬ ((20 + (22 * a1)) < 0 ∨ 1200 ≤ (20 + (22 * a1)).toNatClampNeg) ∧ r = (some (.int v13), (zS (up2 I14 94 ((20 + (22 * a1)).toNatClampNeg) 0) J15 tg16)))))) : Runs (GW L xs) (d + 1) 191 (0, [.ref 93, .int a1, vU], [], (zS I J tg)) r := by
  refine Runs.sN 2 (c' := (2, [.ref 93, .int a1, vU], [.int a1, .ref 93], (zS I J tg))) rfl ?_
  obtain ⟨v9, I10, J11, tg12, c17, h⟩ := h
  refine Runs.cl (cm := 181) (as := [.ref 93, .int a1]) (rest := []) (r1 := ((some (.int v9)), (zS I10 J11 tg12))) rfl (Nat.le_of_ble_eq_true rfl) c17 ?_
  refine Runs.as (c' := (5, [.ref 93, .int a1, vU], [.int v9], (zS I10 J11 tg12))) rfl ?_
  by_cases c18 : v9 = 0
  · rw [if_pos c18] at h
    refine Runs.brT (P := v9 = 0) (a := 8) (b := 10) (L := [.ref 93, .int a1, vU]) (S := []) (z := (zS I10 J11 tg12)) rfl c18 ?_
    refine Runs.sN 1 (c' := (9, [.ref 93, .int a1, vU], [.int (-1)], (zS I10 J11 tg12))) rfl ?_
    subst h
    exact Runs.rt rfl
  · rw [if_neg c18] at h
    refine Runs.brF (P := v9 = 0) (a := 8) (b := 10) (L := [.ref 93, .int a1, vU]) (S := []) (z := (zS I10 J11 tg12)) rfl c18 ?_
    refine Runs.sN 3 (c' := (13, [.ref 93, .int a1, vU], [.int 0, .int a1, .ref 93], (zS I10 J11 tg12))) rfl ?_
    obtain ⟨v13, I14, J15, tg16, c19, h⟩ := h
    refine Runs.cl (cm := 184) (as := [.ref 93, .int a1, .int 0]) (rest := []) (r1 := ((some (.int v13)), (zS I14 J15 tg16))) rfl (Nat.le_of_ble_eq_true rfl) c19 ?_
    refine Runs.as (c' := (16, [.ref 93, .int a1, vU], [.int v13], (zS I14 J15 tg16))) rfl ?_
    refine Runs.sN 9 (c' := (29, [.ref 93, .int a1, .int v13], [.int 0, .int (20 + (22 * a1)), .ref 94], (zS I14 J15 tg16))) rfl ?_
    obtain ⟨c20, h⟩ := h
    refine Runs.to (c' := (30, [.ref 93, .int a1, .int v13], [], (zS (up2 I14 94 ((20 + (22 * a1)).toNatClampNeg) 0) J15 tg16))) (Runs.ist rfl (show (94 : Nat) < 114 by decide) rfl c20) ?_
    refine Runs.sN 1 (c' := (31, [.ref 93, .int a1, .int v13], [.int v13], (zS (up2 I14 94 ((20 + (22 * a1)).toNatClampNeg) 0) J15 tg16))) rfl ?_
    subst h
    exact Runs.rt rfl
-- X12_colour 
theorem sg_192 {L d : Nat} {xs : Nat → Int32} (I : Nat → Nat → Int32) (J : Nat → Nat → Int64) (tg : Option Nat) (a1 : Int32) (a2 : Int32) {r : Option Value × SS} (h : (∃ (v9 : Int32) (I10 : Nat → Nat → Int32) (J11 : Nat → Nat → Int64) (tg12 : Option Nat), Runs (GW L xs) d 181 (0, [.ref 93, .int a1], [], (zS I J tg)) ((some (.int v9)), (zS I10 J11 tg12)) ∧ (if v9 = 0 then (r = (some (.int 0), (zS I10 J11 tg12))) else (∃ (v13 : Int32) (I14 : Nat → Nat → Int32) (J15 : Nat → Nat → Int64) (tg16 : Option Nat), Runs (GW L xs) d 177 (0, [.int a2, .int 0, .int 3], [], (zS I10 J11 tg12)) ((some (.int v13)), (zS I14 J15 tg16)) ∧ (if v13 = 0 then (r = (some (.int 0), (zS I14 J15 tg16))) else (¬ (((20 + (22 * a1)) + 1) < 0 ∨ 1200 ≤ ((20 + (22 * a1)) + 1).toNatClampNeg) ∧ r = (some (.int 1), (zS (up2 I14 94 (((20 + (22 * a1)) + 1).toNatClampNeg) a2) J15 tg16)))))))) : Runs (GW L xs) (d + 1) 192 (0, [.ref 93, .int a1, .int a2], [], (zS I J tg)) r := by
  refine Runs.sN 2 (c' := (2, [.ref 93, .int a1, .int a2], [.int a1, .ref 93], (zS I J tg))) rfl ?_
  obtain ⟨v9, I10, J11, tg12, c17, h⟩ := h
  refine Runs.cl (cm := 181) (as := [.ref 93, .int a1]) (rest := []) (r1 := ((some (.int v9)), (zS I10 J11 tg12))) rfl (Nat.le_of_ble_eq_true rfl) c17 ?_
  refine Runs.as (c' := (5, [.ref 93, .int a1, .int a2], [.int v9], (zS I10 J11 tg12))) rfl ?_
  by_cases c18 : v9 = 0
  · rw [if_pos c18] at h
    refine Runs.brT (P := v9 = 0) (a := 17) (b := 8) (L := [.ref 93, .int a1, .int a2]) (S := []) (z := (zS I10 J11 tg12)) rfl c18 ?_
    refine Runs.sN 1 (c' := (18, [.ref 93, .int a1, .int a2], [.int 0], (zS I10 J11 tg12))) rfl ?_
    subst h
    exact Runs.rt rfl
  · rw [if_neg c18] at h
    refine Runs.brF (P := v9 = 0) (a := 17) (b := 8) (L := [.ref 93, .int a1, .int a2]) (S := []) (z := (zS I10 J11 tg12)) rfl c18 ?_
    refine Runs.sN 3 (c' := (11, [.ref 93, .int a1, .int a2], [.int 3, .int 0, .int a2], (zS I10 J11 tg12))) rfl ?_
    obtain ⟨v13, I14, J15, tg16, c19, h⟩ := h
    refine Runs.cl (cm := 177) (as := [.int a2, .int 0, .int 3]) (rest := []) (r1 := ((some (.int v13)), (zS I14 J15 tg16))) rfl (Nat.le_of_ble_eq_true rfl) c19 ?_
    refine Runs.as (c' := (14, [.ref 93, .int a1, .int a2], [.int v13], (zS I14 J15 tg16))) rfl ?_
    by_cases c20 : v13 = 0
    · rw [if_pos c20] at h
      refine Runs.brT (P := v13 = 0) (a := 17) (b := 19) (L := [.ref 93, .int a1, .int a2]) (S := []) (z := (zS I14 J15 tg16)) rfl c20 ?_
      refine Runs.sN 1 (c' := (18, [.ref 93, .int a1, .int a2], [.int 0], (zS I14 J15 tg16))) rfl ?_
      subst h
      exact Runs.rt rfl
    · rw [if_neg c20] at h
      refine Runs.brF (P := v13 = 0) (a := 17) (b := 19) (L := [.ref 93, .int a1, .int a2]) (S := []) (z := (zS I14 J15 tg16)) rfl c20 ?_
      refine Runs.sN 10 (c' := (33, [.ref 93, .int a1, .int a2], [.int a2, .int ((20 + (22 * a1)) + 1), .ref 94], (zS I14 J15 tg16))) rfl ?_
      obtain ⟨c21, h⟩ := h
      refine Runs.to (c' := (34, [.ref 93, .int a1, .int a2], [], (zS (up2 I14 94 (((20 + (22 * a1)) + 1).toNatClampNeg) a2) J15 tg16))) (Runs.ist rfl (show (94 : Nat) < 114 by decide) rfl c21) ?_
      refine Runs.sN 1 (c' := (35, [.ref 93, .int a1, .int a2], [.int 1], (zS (up2 I14 94 (((20 + (22 * a1)) + 1).toNatClampNeg) a2) J15 tg16))) rfl ?_
      subst h
      exact Runs.rt rfl
-- X12_means 
theorem sg_193 {L d : Nat} {xs : Nat → Int32} (I : Nat → Nat → Int32) (J : Nat → Nat → Int64) (tg : Option Nat) (a1 : Int32) (a2 : Int32) (a3 : Int32) {r : Option Value × SS} (h : (∃ (v9 : Int32) (I10 : Nat → Nat → Int32) (J11 : Nat → Nat → Int64) (tg12 : Option Nat), Runs (GW L xs) d 179 (0, [.ref 93, .int a1], [], (zS I J tg)) ((some (.int v9)), (zS I10 J11 tg12)) ∧ (if v9 = 0 then (r = (some (.int 0), (zS I10 J11 tg12))) else ((if a2 = (-1) then (¬ (((20 + (22 * a1)) + 2) < 0 ∨ 1200 ≤ ((20 + (22 * a1)) + 2).toNatClampNeg) ∧ (if a3 = 0 then (¬ (((20 + (22 * a1)) + 3) < 0 ∨ 1200 ≤ ((20 + (22 * a1)) + 3).toNatClampNeg) ∧ r = (some (.int 1), (zS (up2 (up2 I10 94 (((20 + (22 * a1)) + 2).toNatClampNeg) a2) 94 (((20 + (22 * a1)) + 3).toNatClampNeg) 0) J11 tg12))) else ((if a2 = (-1) then (¬ (((20 + (22 * a1)) + 3) < 0 ∨ 1200 ≤ ((20 + (22 * a1)) + 3).toNatClampNeg) ∧ r = (some (.int 1), (zS (up2 (up2 I10 94 (((20 + (22 * a1)) + 2).toNatClampNeg) a2) 94 (((20 + (22 * a1)) + 3).toNatClampNeg) 0) J11 tg12))) else (¬ (((20 + (22 * a1)) + 3) < 0 ∨ 1200 ≤ ((20 + (22 * a1)) + 3).toNatClampNeg) ∧ r = (some (.int 1), (zS (up2 (up2 I10 94 (((20 + (22 * a1)) + 2).toNatClampNeg) a2) 94 (((20 + (22 * a1)) + 3).toNatClampNeg) 1) J11 tg12))))))) else (∃ (v13 : Int32) (I14 : Nat → Nat → Int32) (J15 : Nat → Nat → Int64) (tg16 : Option Nat), Runs (GW L xs) d 180 (0, [.ref 93, .int a2], [], (zS I10 J11 tg12)) ((some (.int v13)), (zS I14 J15 tg16)) ∧ (if v13 = 0 then (r = (some (.int 0), (zS I14 J15 tg16))) else (¬ (((20 + (22 * a1)) + 2) < 0 ∨ 1200 ≤ ((20 + (22 * a1)) + 2).toNatClampNeg) ∧ (if a3 = 0 then (¬ (((20 + (22 * a1)) + 3) < 0 ∨ 1200 ≤ ((20 + (22 * a1)) + 3).toNatClampNeg) ∧ r = (some (.int 1), (zS (up2 (up2 I14 94 (((20 + (22 * a1)) + 2).toNatClampNeg) a2) 94 (((20 + (22 * a1)) + 3).toNatClampNeg) 0) J15 tg16))) else ((if a2 = (-1) then (¬ (((20 + (22 * a1)) + 3) < 0 ∨ 1200 ≤ ((20 + (22 * a1)) + 3).toNatClampNeg) ∧ r = (some (.int 1), (zS (up2 (up2 I14 94 (((20 + (22 * a1)) + 2).toNatClampNeg) a2) 94 (((20 + (22 * a1)) + 3).toNatClampNeg) 0) J15 tg16))) else (¬ (((20 + (22 * a1)) + 3) < 0 ∨ 1200 ≤ ((20 + (22 * a1)) + 3).toNatClampNeg) ∧ r = (some (.int 1), (zS (up2 (up2 I14 94 (((20 + (22 * a1)) + 2).toNatClampNeg) a2) 94 (((20 + (22 * a1)) + 3).toNatClampNeg) 1) J15 tg16)))))))))))))) : Runs (GW L xs) (d + 1) 193 (0, [.ref 93, .int a1, .int a2, .int a3], [], (zS I J tg)) r := by
  refine Runs.sN 2 (c' := (2, [.ref 93, .int a1, .int a2, .int a3], [.int a1, .ref 93], (zS I J tg))) rfl ?_
  obtain ⟨v9, I10, J11, tg12, c17, h⟩ := h
  refine Runs.cl (cm := 179) (as := [.ref 93, .int a1]) (rest := []) (r1 := ((some (.int v9)), (zS I10 J11 tg12))) rfl (Nat.le_of_ble_eq_true rfl) c17 ?_
  refine Runs.as (c' := (5, [.ref 93, .int a1, .int a2, .int a3], [.int v9], (zS I10 J11 tg12))) rfl ?_
  by_cases c18 : v9 = 0
  · rw [if_pos c18] at h
    refine Runs.brT (P := v9 = 0) (a := 21) (b := 8) (L := [.ref 93, .int a1, .int a2, .int a3]) (S := []) (z := (zS I10 J11 tg12)) rfl c18 ?_
    refine Runs.sN 1 (c' := (22, [.ref 93, .int a1, .int a2, .int a3], [.int 0], (zS I10 J11 tg12))) rfl ?_
    subst h
    exact Runs.rt rfl
  · rw [if_neg c18] at h
    refine Runs.brF (P := v9 = 0) (a := 21) (b := 8) (L := [.ref 93, .int a1, .int a2, .int a3]) (S := []) (z := (zS I10 J11 tg12)) rfl c18 ?_
    refine Runs.sN 2 (c' := (10, [.ref 93, .int a1, .int a2, .int a3], [.int (-1), .int a2], (zS I10 J11 tg12))) rfl ?_
    by_cases c19 : a2 = (-1)
    · rw [if_pos c19] at h
      refine Runs.brT (P := a2 = (-1)) (a := 23) (b := 13) (L := [.ref 93, .int a1, .int a2, .int a3]) (S := []) (z := (zS I10 J11 tg12)) rfl c19 ?_
      refine Runs.sN 10 (c' := (37, [.ref 93, .int a1, .int a2, .int a3], [.int a2, .int ((20 + (22 * a1)) + 2), .ref 94], (zS I10 J11 tg12))) rfl ?_
      obtain ⟨c20, h⟩ := h
      refine Runs.to (c' := (38, [.ref 93, .int a1, .int a2, .int a3], [], (zS (up2 I10 94 (((20 + (22 * a1)) + 2).toNatClampNeg) a2) J11 tg12))) (Runs.ist rfl (show (94 : Nat) < 114 by decide) rfl c20) ?_
      refine Runs.sN 10 (c' := (52, [.ref 93, .int a1, .int a2, .int a3], [.int a3, .int ((20 + (22 * a1)) + 3), .ref 94], (zS (up2 I10 94 (((20 + (22 * a1)) + 2).toNatClampNeg) a2) J11 tg12))) rfl ?_
      by_cases c21 : a3 = 0
      · rw [if_pos c21] at h
        refine Runs.brT (P := a3 = 0) (a := 64) (b := 55) (L := [.ref 93, .int a1, .int a2, .int a3]) (S := [.int ((20 + (22 * a1)) + 3), .ref 94]) (z := (zS (up2 I10 94 (((20 + (22 * a1)) + 2).toNatClampNeg) a2) J11 tg12)) rfl c21 ?_
        refine Runs.sN 1 (c' := (65, [.ref 93, .int a1, .int a2, .int a3], [.int 0, .int ((20 + (22 * a1)) + 3), .ref 94], (zS (up2 I10 94 (((20 + (22 * a1)) + 2).toNatClampNeg) a2) J11 tg12))) rfl ?_
        obtain ⟨c22, h⟩ := h
        refine Runs.to (c' := (66, [.ref 93, .int a1, .int a2, .int a3], [], (zS (up2 (up2 I10 94 (((20 + (22 * a1)) + 2).toNatClampNeg) a2) 94 (((20 + (22 * a1)) + 3).toNatClampNeg) 0) J11 tg12))) (Runs.ist rfl (show (94 : Nat) < 114 by decide) rfl c22) ?_
        refine Runs.sN 1 (c' := (67, [.ref 93, .int a1, .int a2, .int a3], [.int 1], (zS (up2 (up2 I10 94 (((20 + (22 * a1)) + 2).toNatClampNeg) a2) 94 (((20 + (22 * a1)) + 3).toNatClampNeg) 0) J11 tg12))) rfl ?_
        subst h
        exact Runs.rt rfl
      · rw [if_neg c21] at h
        refine Runs.brF (P := a3 = 0) (a := 64) (b := 55) (L := [.ref 93, .int a1, .int a2, .int a3]) (S := [.int ((20 + (22 * a1)) + 3), .ref 94]) (z := (zS (up2 I10 94 (((20 + (22 * a1)) + 2).toNatClampNeg) a2) J11 tg12)) rfl c21 ?_
        refine Runs.sN 2 (c' := (57, [.ref 93, .int a1, .int a2, .int a3], [.int (-1), .int a2, .int ((20 + (22 * a1)) + 3), .ref 94], (zS (up2 I10 94 (((20 + (22 * a1)) + 2).toNatClampNeg) a2) J11 tg12))) rfl ?_
        by_cases c23 : a2 = (-1)
        · rw [if_pos c23] at h
          refine Runs.brT (P := a2 = (-1)) (a := 64) (b := 60) (L := [.ref 93, .int a1, .int a2, .int a3]) (S := [.int ((20 + (22 * a1)) + 3), .ref 94]) (z := (zS (up2 I10 94 (((20 + (22 * a1)) + 2).toNatClampNeg) a2) J11 tg12)) rfl c23 ?_
          refine Runs.sN 1 (c' := (65, [.ref 93, .int a1, .int a2, .int a3], [.int 0, .int ((20 + (22 * a1)) + 3), .ref 94], (zS (up2 I10 94 (((20 + (22 * a1)) + 2).toNatClampNeg) a2) J11 tg12))) rfl ?_
          obtain ⟨c24, h⟩ := h
          refine Runs.to (c' := (66, [.ref 93, .int a1, .int a2, .int a3], [], (zS (up2 (up2 I10 94 (((20 + (22 * a1)) + 2).toNatClampNeg) a2) 94 (((20 + (22 * a1)) + 3).toNatClampNeg) 0) J11 tg12))) (Runs.ist rfl (show (94 : Nat) < 114 by decide) rfl c24) ?_
          refine Runs.sN 1 (c' := (67, [.ref 93, .int a1, .int a2, .int a3], [.int 1], (zS (up2 (up2 I10 94 (((20 + (22 * a1)) + 2).toNatClampNeg) a2) 94 (((20 + (22 * a1)) + 3).toNatClampNeg) 0) J11 tg12))) rfl ?_
          subst h
          exact Runs.rt rfl
        · rw [if_neg c23] at h
          refine Runs.brF (P := a2 = (-1)) (a := 64) (b := 60) (L := [.ref 93, .int a1, .int a2, .int a3]) (S := [.int ((20 + (22 * a1)) + 3), .ref 94]) (z := (zS (up2 I10 94 (((20 + (22 * a1)) + 2).toNatClampNeg) a2) J11 tg12)) rfl c23 ?_
          refine Runs.sN 2 (c' := (65, [.ref 93, .int a1, .int a2, .int a3], [.int 1, .int ((20 + (22 * a1)) + 3), .ref 94], (zS (up2 I10 94 (((20 + (22 * a1)) + 2).toNatClampNeg) a2) J11 tg12))) rfl ?_
          obtain ⟨c25, h⟩ := h
          refine Runs.to (c' := (66, [.ref 93, .int a1, .int a2, .int a3], [], (zS (up2 (up2 I10 94 (((20 + (22 * a1)) + 2).toNatClampNeg) a2) 94 (((20 + (22 * a1)) + 3).toNatClampNeg) 1) J11 tg12))) (Runs.ist rfl (show (94 : Nat) < 114 by decide) rfl c25) ?_
          refine Runs.sN 1 (c' := (67, [.ref 93, .int a1, .int a2, .int a3], [.int 1], (zS (up2 (up2 I10 94 (((20 + (22 * a1)) + 2).toNatClampNeg) a2) 94 (((20 + (22 * a1)) + 3).toNatClampNeg) 1) J11 tg12))) rfl ?_
          subst h
          exact Runs.rt rfl
    · rw [if_neg c19] at h
      refine Runs.brF (P := a2 = (-1)) (a := 23) (b := 13) (L := [.ref 93, .int a1, .int a2, .int a3]) (S := []) (z := (zS I10 J11 tg12)) rfl c19 ?_
      refine Runs.sN 2 (c' := (15, [.ref 93, .int a1, .int a2, .int a3], [.int a2, .ref 93], (zS I10 J11 tg12))) rfl ?_
      obtain ⟨v13, I14, J15, tg16, c26, h⟩ := h
      refine Runs.cl (cm := 180) (as := [.ref 93, .int a2]) (rest := []) (r1 := ((some (.int v13)), (zS I14 J15 tg16))) rfl (Nat.le_of_ble_eq_true rfl) c26 ?_
      refine Runs.as (c' := (18, [.ref 93, .int a1, .int a2, .int a3], [.int v13], (zS I14 J15 tg16))) rfl ?_
      by_cases c27 : v13 = 0
      · rw [if_pos c27] at h
        refine Runs.brT (P := v13 = 0) (a := 21) (b := 23) (L := [.ref 93, .int a1, .int a2, .int a3]) (S := []) (z := (zS I14 J15 tg16)) rfl c27 ?_
        refine Runs.sN 1 (c' := (22, [.ref 93, .int a1, .int a2, .int a3], [.int 0], (zS I14 J15 tg16))) rfl ?_
        subst h
        exact Runs.rt rfl
      · rw [if_neg c27] at h
        refine Runs.brF (P := v13 = 0) (a := 21) (b := 23) (L := [.ref 93, .int a1, .int a2, .int a3]) (S := []) (z := (zS I14 J15 tg16)) rfl c27 ?_
        refine Runs.sN 10 (c' := (37, [.ref 93, .int a1, .int a2, .int a3], [.int a2, .int ((20 + (22 * a1)) + 2), .ref 94], (zS I14 J15 tg16))) rfl ?_
        obtain ⟨c28, h⟩ := h
        refine Runs.to (c' := (38, [.ref 93, .int a1, .int a2, .int a3], [], (zS (up2 I14 94 (((20 + (22 * a1)) + 2).toNatClampNeg) a2) J15 tg16))) (Runs.ist rfl (show (94 : Nat) < 114 by decide) rfl c28) ?_
        refine Runs.sN 10 (c' := (52, [.ref 93, .int a1, .int a2, .int a3], [.int a3, .int ((20 + (22 * a1)) + 3), .ref 94], (zS (up2 I14 94 (((20 + (22 * a1)) + 2).toNatClampNeg) a2) J15 tg16))) rfl ?_
        by_cases c29 : a3 = 0
        · rw [if_pos c29] at h
          refine Runs.brT (P := a3 = 0) (a := 64) (b := 55) (L := [.ref 93, .int a1, .int a2, .int a3]) (S := [.int ((20 + (22 * a1)) + 3), .ref 94]) (z := (zS (up2 I14 94 (((20 + (22 * a1)) + 2).toNatClampNeg) a2) J15 tg16)) rfl c29 ?_
          refine Runs.sN 1 (c' := (65, [.ref 93, .int a1, .int a2, .int a3], [.int 0, .int ((20 + (22 * a1)) + 3), .ref 94], (zS (up2 I14 94 (((20 + (22 * a1)) + 2).toNatClampNeg) a2) J15 tg16))) rfl ?_
          obtain ⟨c30, h⟩ := h
          refine Runs.to (c' := (66, [.ref 93, .int a1, .int a2, .int a3], [], (zS (up2 (up2 I14 94 (((20 + (22 * a1)) + 2).toNatClampNeg) a2) 94 (((20 + (22 * a1)) + 3).toNatClampNeg) 0) J15 tg16))) (Runs.ist rfl (show (94 : Nat) < 114 by decide) rfl c30) ?_
          refine Runs.sN 1 (c' := (67, [.ref 93, .int a1, .int a2, .int a3], [.int 1], (zS (up2 (up2 I14 94 (((20 + (22 * a1)) + 2).toNatClampNeg) a2) 94 (((20 + (22 * a1)) + 3).toNatClampNeg) 0) J15 tg16))) rfl ?_
          subst h
          exact Runs.rt rfl
        · rw [if_neg c29] at h
          refine Runs.brF (P := a3 = 0) (a := 64) (b := 55) (L := [.ref 93, .int a1, .int a2, .int a3]) (S := [.int ((20 + (22 * a1)) + 3), .ref 94]) (z := (zS (up2 I14 94 (((20 + (22 * a1)) + 2).toNatClampNeg) a2) J15 tg16)) rfl c29 ?_
          refine Runs.sN 2 (c' := (57, [.ref 93, .int a1, .int a2, .int a3], [.int (-1), .int a2, .int ((20 + (22 * a1)) + 3), .ref 94], (zS (up2 I14 94 (((20 + (22 * a1)) + 2).toNatClampNeg) a2) J15 tg16))) rfl ?_
          by_cases c31 : a2 = (-1)
          · rw [if_pos c31] at h
            refine Runs.brT (P := a2 = (-1)) (a := 64) (b := 60) (L := [.ref 93, .int a1, .int a2, .int a3]) (S := [.int ((20 + (22 * a1)) + 3), .ref 94]) (z := (zS (up2 I14 94 (((20 + (22 * a1)) + 2).toNatClampNeg) a2) J15 tg16)) rfl c31 ?_
            refine Runs.sN 1 (c' := (65, [.ref 93, .int a1, .int a2, .int a3], [.int 0, .int ((20 + (22 * a1)) + 3), .ref 94], (zS (up2 I14 94 (((20 + (22 * a1)) + 2).toNatClampNeg) a2) J15 tg16))) rfl ?_
            obtain ⟨c32, h⟩ := h
            refine Runs.to (c' := (66, [.ref 93, .int a1, .int a2, .int a3], [], (zS (up2 (up2 I14 94 (((20 + (22 * a1)) + 2).toNatClampNeg) a2) 94 (((20 + (22 * a1)) + 3).toNatClampNeg) 0) J15 tg16))) (Runs.ist rfl (show (94 : Nat) < 114 by decide) rfl c32) ?_
            refine Runs.sN 1 (c' := (67, [.ref 93, .int a1, .int a2, .int a3], [.int 1], (zS (up2 (up2 I14 94 (((20 + (22 * a1)) + 2).toNatClampNeg) a2) 94 (((20 + (22 * a1)) + 3).toNatClampNeg) 0) J15 tg16))) rfl ?_
            subst h
            exact Runs.rt rfl
          · rw [if_neg c31] at h
            refine Runs.brF (P := a2 = (-1)) (a := 64) (b := 60) (L := [.ref 93, .int a1, .int a2, .int a3]) (S := [.int ((20 + (22 * a1)) + 3), .ref 94]) (z := (zS (up2 I14 94 (((20 + (22 * a1)) + 2).toNatClampNeg) a2) J15 tg16)) rfl c31 ?_
            refine Runs.sN 2 (c' := (65, [.ref 93, .int a1, .int a2, .int a3], [.int 1, .int ((20 + (22 * a1)) + 3), .ref 94], (zS (up2 I14 94 (((20 + (22 * a1)) + 2).toNatClampNeg) a2) J15 tg16))) rfl ?_
            obtain ⟨c33, h⟩ := h
            refine Runs.to (c' := (66, [.ref 93, .int a1, .int a2, .int a3], [], (zS (up2 (up2 I14 94 (((20 + (22 * a1)) + 2).toNatClampNeg) a2) 94 (((20 + (22 * a1)) + 3).toNatClampNeg) 1) J15 tg16))) (Runs.ist rfl (show (94 : Nat) < 114 by decide) rfl c33) ?_
            refine Runs.sN 1 (c' := (67, [.ref 93, .int a1, .int a2, .int a3], [.int 1], (zS (up2 (up2 I14 94 (((20 + (22 * a1)) + 2).toNatClampNeg) a2) 94 (((20 + (22 * a1)) + 3).toNatClampNeg) 1) J15 tg16))) rfl ?_
            subst h
            exact Runs.rt rfl
-- X12_isWeight 
theorem sg_194 {L d : Nat} {xs : Nat → Int32} (I : Nat → Nat → Int32) (J : Nat → Nat → Int64) (tg : Option Nat) (a1 : Int32) {r : Option Value × SS} (h : (∃ (v5 : Int32) (I6 : Nat → Nat → Int32) (J7 : Nat → Nat → Int64) (tg8 : Option Nat), Runs (GW L xs) d 177 (0, [.int a1, .int 0, .int 99], [], (zS I J tg)) ((some (.int v5)), (zS I6 J7 tg8)) ∧ (v5 = 0 ∨ v5 = 1) ∧ r = (some (.int v5), (zS I6 J7 tg8)))) : Runs (GW L xs) (d + 1) 194 (0, [.int a1], [], (zS I J tg)) r := by
  refine Runs.sN 3 (c' := (4, [.int a1], [.int 99, .int 0, .int a1], (zS I J tg))) rfl ?_
  obtain ⟨v5, I6, J7, tg8, c9, h⟩ := h
  refine Runs.cl (cm := 177) (as := [.int a1, .int 0, .int 99]) (rest := []) (r1 := ((some (.int v5)), (zS I6 J7 tg8))) rfl (Nat.le_of_ble_eq_true rfl) c9 ?_
  refine Runs.as (c' := (7, [.int a1], [.int v5], (zS I6 J7 tg8))) rfl ?_
  obtain ⟨h0, h⟩ := h
  subst h
  exact Runs.zrt rfl rfl h0
-- X12_weights 
theorem sg_195 {L d : Nat} {xs : Nat → Int32} (I : Nat → Nat → Int32) (J : Nat → Nat → Int64) (tg : Option Nat) (a1 : Int32) (a2 : Int32) (a3 : Int32) (a4 : Int32) {r : Option Value × SS} (h : (∃ (v17 : Int32) (I18 : Nat → Nat → Int32) (J19 : Nat → Nat → Int64) (tg20 : Option Nat), Runs (GW L xs) d 194 (0, [.int a1], [], (zS I J tg)) ((some (.int v17)), (zS I18 J19 tg20)) ∧ (if v17 = 0 then (r = (some (.int 0), (zS I18 J19 tg20))) else (∃ (v21 : Int32) (I22 : Nat → Nat → Int32) (J23 : Nat → Nat → Int64) (tg24 : Option Nat), Runs (GW L xs) d 194 (0, [.int a2], [], (zS I18 J19 tg20)) ((some (.int v21)), (zS I22 J23 tg24)) ∧ (if v21 = 0 then (r = (some (.int 0), (zS I22 J23 tg24))) else (∃ (v25 : Int32) (I26 : Nat → Nat → Int32) (J27 : Nat → Nat → Int64) (tg28 : Option Nat), Runs (GW L xs) d 194 (0, [.int a3], [], (zS I22 J23 tg24)) ((some (.int v25)), (zS I26 J27 tg28)) ∧ (if v25 = 0 then (r = (some (.int 0), (zS I26 J27 tg28))) else (∃ (v29 : Int32) (I30 : Nat → Nat → Int32) (J31 : Nat → Nat → Int64) (tg32 : Option Nat), Runs (GW L xs) d 194 (0, [.int a4], [], (zS I26 J27 tg28)) ((some (.int v29)), (zS I30 J31 tg32)) ∧ (if v29 = 0 then (r = (some (.int 0), (zS I30 J31 tg32))) else (r = (some (.int 1), (zS (up2 (up2 (up2 (up2 I30 94 8 a1) 94 9 a2) 94 10 a3) 94 11 a4) J31 tg32)))))))))))) : Runs (GW L xs) (d + 1) 195 (0, [.ref 93, .int a1, .int a2, .int a3, .int a4], [], (zS I J tg)) r := by
  refine Runs.sN 1 (c' := (1, [.ref 93, .int a1, .int a2, .int a3, .int a4], [.int a1], (zS I J tg))) rfl ?_
  obtain ⟨v17, I18, J19, tg20, c33, h⟩ := h
  refine Runs.cl (cm := 194) (as := [.int a1]) (rest := []) (r1 := ((some (.int v17)), (zS I18 J19 tg20))) rfl (Nat.le_of_ble_eq_true rfl) c33 ?_
  refine Runs.as (c' := (4, [.ref 93, .int a1, .int a2, .int a3, .int a4], [.int v17], (zS I18 J19 tg20))) rfl ?_
  by_cases c34 : v17 = 0
  · rw [if_pos c34] at h
    refine Runs.brT (P := v17 = 0) (a := 29) (b := 7) (L := [.ref 93, .int a1, .int a2, .int a3, .int a4]) (S := []) (z := (zS I18 J19 tg20)) rfl c34 ?_
    refine Runs.sN 1 (c' := (30, [.ref 93, .int a1, .int a2, .int a3, .int a4], [.int 0], (zS I18 J19 tg20))) rfl ?_
    subst h
    exact Runs.rt rfl
  · rw [if_neg c34] at h
    refine Runs.brF (P := v17 = 0) (a := 29) (b := 7) (L := [.ref 93, .int a1, .int a2, .int a3, .int a4]) (S := []) (z := (zS I18 J19 tg20)) rfl c34 ?_
    refine Runs.sN 1 (c' := (8, [.ref 93, .int a1, .int a2, .int a3, .int a4], [.int a2], (zS I18 J19 tg20))) rfl ?_
    obtain ⟨v21, I22, J23, tg24, c35, h⟩ := h
    refine Runs.cl (cm := 194) (as := [.int a2]) (rest := []) (r1 := ((some (.int v21)), (zS I22 J23 tg24))) rfl (Nat.le_of_ble_eq_true rfl) c35 ?_
    refine Runs.as (c' := (11, [.ref 93, .int a1, .int a2, .int a3, .int a4], [.int v21], (zS I22 J23 tg24))) rfl ?_
    by_cases c36 : v21 = 0
    · rw [if_pos c36] at h
      refine Runs.brT (P := v21 = 0) (a := 29) (b := 14) (L := [.ref 93, .int a1, .int a2, .int a3, .int a4]) (S := []) (z := (zS I22 J23 tg24)) rfl c36 ?_
      refine Runs.sN 1 (c' := (30, [.ref 93, .int a1, .int a2, .int a3, .int a4], [.int 0], (zS I22 J23 tg24))) rfl ?_
      subst h
      exact Runs.rt rfl
    · rw [if_neg c36] at h
      refine Runs.brF (P := v21 = 0) (a := 29) (b := 14) (L := [.ref 93, .int a1, .int a2, .int a3, .int a4]) (S := []) (z := (zS I22 J23 tg24)) rfl c36 ?_
      refine Runs.sN 1 (c' := (15, [.ref 93, .int a1, .int a2, .int a3, .int a4], [.int a3], (zS I22 J23 tg24))) rfl ?_
      obtain ⟨v25, I26, J27, tg28, c37, h⟩ := h
      refine Runs.cl (cm := 194) (as := [.int a3]) (rest := []) (r1 := ((some (.int v25)), (zS I26 J27 tg28))) rfl (Nat.le_of_ble_eq_true rfl) c37 ?_
      refine Runs.as (c' := (18, [.ref 93, .int a1, .int a2, .int a3, .int a4], [.int v25], (zS I26 J27 tg28))) rfl ?_
      by_cases c38 : v25 = 0
      · rw [if_pos c38] at h
        refine Runs.brT (P := v25 = 0) (a := 29) (b := 21) (L := [.ref 93, .int a1, .int a2, .int a3, .int a4]) (S := []) (z := (zS I26 J27 tg28)) rfl c38 ?_
        refine Runs.sN 1 (c' := (30, [.ref 93, .int a1, .int a2, .int a3, .int a4], [.int 0], (zS I26 J27 tg28))) rfl ?_
        subst h
        exact Runs.rt rfl
      · rw [if_neg c38] at h
        refine Runs.brF (P := v25 = 0) (a := 29) (b := 21) (L := [.ref 93, .int a1, .int a2, .int a3, .int a4]) (S := []) (z := (zS I26 J27 tg28)) rfl c38 ?_
        refine Runs.sN 1 (c' := (23, [.ref 93, .int a1, .int a2, .int a3, .int a4], [.int a4], (zS I26 J27 tg28))) rfl ?_
        obtain ⟨v29, I30, J31, tg32, c39, h⟩ := h
        refine Runs.cl (cm := 194) (as := [.int a4]) (rest := []) (r1 := ((some (.int v29)), (zS I30 J31 tg32))) rfl (Nat.le_of_ble_eq_true rfl) c39 ?_
        refine Runs.as (c' := (26, [.ref 93, .int a1, .int a2, .int a3, .int a4], [.int v29], (zS I30 J31 tg32))) rfl ?_
        by_cases c40 : v29 = 0
        · rw [if_pos c40] at h
          refine Runs.brT (P := v29 = 0) (a := 29) (b := 31) (L := [.ref 93, .int a1, .int a2, .int a3, .int a4]) (S := []) (z := (zS I30 J31 tg32)) rfl c40 ?_
          refine Runs.sN 1 (c' := (30, [.ref 93, .int a1, .int a2, .int a3, .int a4], [.int 0], (zS I30 J31 tg32))) rfl ?_
          subst h
          exact Runs.rt rfl
        · rw [if_neg c40] at h
          refine Runs.brF (P := v29 = 0) (a := 29) (b := 31) (L := [.ref 93, .int a1, .int a2, .int a3, .int a4]) (S := []) (z := (zS I30 J31 tg32)) rfl c40 ?_
          refine Runs.sN 21 (c' := (65, [.ref 93, .int a1, .int a2, .int a3, .int a4], [.int 1], (zS (up2 (up2 (up2 (up2 I30 94 8 a1) 94 9 a2) 94 10 a3) 94 11 a4) J31 tg32))) rfl ?_
          subst h
          exact Runs.rt rfl
-- X12_pairCost 
theorem sg_196 {L d : Nat} {xs : Nat → Int32} (I : Nat → Nat → Int32) (J : Nat → Nat → Int64) (tg : Option Nat) (a1 : Int32) (a2 : Int32) {r : Option Value × SS} (h : (∃ (v9 : Int32) (I10 : Nat → Nat → Int32) (J11 : Nat → Nat → Int64) (tg12 : Option Nat), Runs (GW L xs) d 178 (0, [.int ((((a1 / 4) - (a1 / 4) / 9 * 9) - ((a1 / 4) - (a1 / 4) / 9 * 9) / 3 * 3) - (((a2 / 4) - (a2 / 4) / 9 * 9) - ((a2 / 4) - (a2 / 4) / 9 * 9) / 3 * 3))], [], (zS I J tg)) ((some (.int v9)), (zS I10 J11 tg12)) ∧ ∃ (v13 : Int32) (I14 : Nat → Nat → Int32) (J15 : Nat → Nat → Int64) (tg16 : Option Nat), Runs (GW L xs) d 178 (0, [.int ((((a1 / 4) - (a1 / 4) / 9 * 9) / 3) - (((a2 / 4) - (a2 / 4) / 9 * 9) / 3))], [], (zS I10 J11 tg12)) ((some (.int v13)), (zS I14 J15 tg16)) ∧ (if v9 ≤ v13 then ((if (a1 - a1 / 4 * 4) = (a2 - a2 / 4 * 4) then (r = (some (.int (((I14 94 8) * v13) + 0)), (zS I14 J15 tg16))) else (r = (some (.int (((I14 94 8) * v13) + (I14 94 9))), (zS I14 J15 tg16))))) else ((if (a1 - a1 / 4 * 4) = (a2 - a2 / 4 * 4) then (r = (some (.int (((I14 94 8) * v9) + 0)), (zS I14 J15 tg16))) else (r = (some (.int (((I14 94 8) * v9) + (I14 94 9))), (zS I14 J15 tg16)))))))) : Runs (GW L xs) (d + 1) 196 (0, [.ref 93, .int a1, .int a2, vU, vU], [], (zS I J tg)) r := by
  refine Runs.sN 15 (c' := (17, [.ref 93, .int a1, .int a2, vU, vU], [.int ((((a1 / 4) - (a1 / 4) / 9 * 9) - ((a1 / 4) - (a1 / 4) / 9 * 9) / 3 * 3) - (((a2 / 4) - (a2 / 4) / 9 * 9) - ((a2 / 4) - (a2 / 4) / 9 * 9) / 3 * 3))], (zS I J tg))) rfl ?_
  obtain ⟨v9, I10, J11, tg12, c17, h⟩ := h
  refine Runs.cl (cm := 178) (as := [.int ((((a1 / 4) - (a1 / 4) / 9 * 9) - ((a1 / 4) - (a1 / 4) / 9 * 9) / 3 * 3) - (((a2 / 4) - (a2 / 4) / 9 * 9) - ((a2 / 4) - (a2 / 4) / 9 * 9) / 3 * 3))]) (rest := []) (r1 := ((some (.int v9)), (zS I10 J11 tg12))) rfl (Nat.le_of_ble_eq_true rfl) c17 ?_
  refine Runs.as (c' := (20, [.ref 93, .int a1, .int a2, vU, vU], [.int v9], (zS I10 J11 tg12))) rfl ?_
  refine Runs.sN 16 (c' := (38, [.ref 93, .int a1, .int a2, .int v9, vU], [.int ((((a1 / 4) - (a1 / 4) / 9 * 9) / 3) - (((a2 / 4) - (a2 / 4) / 9 * 9) / 3))], (zS I10 J11 tg12))) rfl ?_
  obtain ⟨v13, I14, J15, tg16, c18, h⟩ := h
  refine Runs.cl (cm := 178) (as := [.int ((((a1 / 4) - (a1 / 4) / 9 * 9) / 3) - (((a2 / 4) - (a2 / 4) / 9 * 9) / 3))]) (rest := []) (r1 := ((some (.int v13)), (zS I14 J15 tg16))) rfl (Nat.le_of_ble_eq_true rfl) c18 ?_
  refine Runs.as (c' := (41, [.ref 93, .int a1, .int a2, .int v9, vU], [.int v13], (zS I14 J15 tg16))) rfl ?_
  refine Runs.sN 7 (c' := (53, [.ref 93, .int a1, .int a2, .int v9, .int v13], [.int v13, .int v9, .int (I14 94 8)], (zS I14 J15 tg16))) rfl ?_
  by_cases c19 : v9 ≤ v13
  · rw [if_pos c19] at h
    refine Runs.brT (P := v9 ≤ v13) (a := 60) (b := 56) (L := [.ref 93, .int a1, .int a2, .int v9, .int v13]) (S := [.int (I14 94 8)]) (z := (zS I14 J15 tg16)) rfl c19 ?_
    refine Runs.sN 8 (c' := (69, [.ref 93, .int a1, .int a2, .int v9, .int v13], [.int (a2 - a2 / 4 * 4), .int (a1 - a1 / 4 * 4), .int ((I14 94 8) * v13)], (zS I14 J15 tg16))) rfl ?_
    by_cases c20 : (a1 - a1 / 4 * 4) = (a2 - a2 / 4 * 4)
    · rw [if_pos c20] at h
      refine Runs.brT (P := (a1 - a1 / 4 * 4) = (a2 - a2 / 4 * 4)) (a := 82) (b := 72) (L := [.ref 93, .int a1, .int a2, .int v9, .int v13]) (S := [.int ((I14 94 8) * v13)]) (z := (zS I14 J15 tg16)) rfl c20 ?_
      refine Runs.sN 2 (c' := (84, [.ref 93, .int a1, .int a2, .int v9, .int v13], [.int (((I14 94 8) * v13) + 0)], (zS I14 J15 tg16))) rfl ?_
      subst h
      exact Runs.rt rfl
    · rw [if_neg c20] at h
      refine Runs.brF (P := (a1 - a1 / 4 * 4) = (a2 - a2 / 4 * 4)) (a := 82) (b := 72) (L := [.ref 93, .int a1, .int a2, .int v9, .int v13]) (S := [.int ((I14 94 8) * v13)]) (z := (zS I14 J15 tg16)) rfl c20 ?_
      refine Runs.sN 6 (c' := (84, [.ref 93, .int a1, .int a2, .int v9, .int v13], [.int (((I14 94 8) * v13) + (I14 94 9))], (zS I14 J15 tg16))) rfl ?_
      subst h
      exact Runs.rt rfl
  · rw [if_neg c19] at h
    refine Runs.brF (P := v9 ≤ v13) (a := 60) (b := 56) (L := [.ref 93, .int a1, .int a2, .int v9, .int v13]) (S := [.int (I14 94 8)]) (z := (zS I14 J15 tg16)) rfl c19 ?_
    refine Runs.sN 9 (c' := (69, [.ref 93, .int a1, .int a2, .int v9, .int v13], [.int (a2 - a2 / 4 * 4), .int (a1 - a1 / 4 * 4), .int ((I14 94 8) * v9)], (zS I14 J15 tg16))) rfl ?_
    by_cases c21 : (a1 - a1 / 4 * 4) = (a2 - a2 / 4 * 4)
    · rw [if_pos c21] at h
      refine Runs.brT (P := (a1 - a1 / 4 * 4) = (a2 - a2 / 4 * 4)) (a := 82) (b := 72) (L := [.ref 93, .int a1, .int a2, .int v9, .int v13]) (S := [.int ((I14 94 8) * v9)]) (z := (zS I14 J15 tg16)) rfl c21 ?_
      refine Runs.sN 2 (c' := (84, [.ref 93, .int a1, .int a2, .int v9, .int v13], [.int (((I14 94 8) * v9) + 0)], (zS I14 J15 tg16))) rfl ?_
      subst h
      exact Runs.rt rfl
    · rw [if_neg c21] at h
      refine Runs.brF (P := (a1 - a1 / 4 * 4) = (a2 - a2 / 4 * 4)) (a := 82) (b := 72) (L := [.ref 93, .int a1, .int a2, .int v9, .int v13]) (S := [.int ((I14 94 8) * v9)]) (z := (zS I14 J15 tg16)) rfl c21 ?_
      refine Runs.sN 6 (c' := (84, [.ref 93, .int a1, .int a2, .int v9, .int v13], [.int (((I14 94 8) * v9) + (I14 94 9))], (zS I14 J15 tg16))) rfl ?_
      subst h
      exact Runs.rt rfl
-- X12_farOf 
theorem sg_197 {L d : Nat} {xs : Nat → Int32} (I : Nat → Nat → Int32) (J : Nat → Nat → Int64) (tg : Option Nat) (a1 : Int32) (a2 : Int32) {r : Option Value × SS} (h : (∃ (v77 : Int32) (I78 : Nat → Nat → Int32) (J79 : Nat → Nat → Int64) (tg80 : Option Nat), Runs (GW L xs) d 184 (0, [.ref 93, .int a2, .int 0], [], (zS I J tg)) ((some (.int v77)), (zS I78 J79 tg80)) ∧ Runs (GW L xs) (d + 1) 197 (10, [.ref 93, .int a1, .int a2, .int v77, .int 0, vU, vU, vU, vU, vU], [], (zS I78 J79 tg80)) r)) : Runs (GW L xs) (d + 1) 197 (0, [.ref 93, .int a1, .int a2, vU, vU, vU, vU, vU, vU, vU], [], (zS I J tg)) r := by
  refine Runs.sN 3 (c' := (3, [.ref 93, .int a1, .int a2, vU, vU, vU, vU, vU, vU, vU], [.int 0, .int a2, .ref 93], (zS I J tg))) rfl ?_
  obtain ⟨v77, I78, J79, tg80, c81, h⟩ := h
  refine Runs.cl (cm := 184) (as := [.ref 93, .int a2, .int 0]) (rest := []) (r1 := ((some (.int v77)), (zS I78 J79 tg80))) rfl (Nat.le_of_ble_eq_true rfl) c81 ?_
  refine Runs.as (c' := (6, [.ref 93, .int a1, .int a2, vU, vU, vU, vU, vU, vU, vU], [.int v77], (zS I78 J79 tg80))) rfl ?_
  refine Runs.sN 3 (c' := (10, [.ref 93, .int a1, .int a2, .int v77, .int 0, vU, vU, vU, vU, vU], [], (zS I78 J79 tg80))) rfl ?_
  exact h
theorem sg_197_10 {L d : Nat} {xs : Nat → Int32} (I : Nat → Nat → Int32) (J : Nat → Nat → Int64) (tg : Option Nat) (x1 : Int32) (x2 : Int32) (x3 : Int32) (x4 : Int32) {r : Option Value × SS} (h : ((if (1 <<< (x3 &&& 31)) ≤ x4 then (Runs (GW L xs) (d + 1) 197 (45, [.ref 93, .int x1, .int x2, .int x3, .int 0, vU, vU, vU, vU, vU], [], (zS I J tg)) r) else ((if x4 = 0 then (¬ (x4 < 0 ∨ 64 ≤ (x4).toNatClampNeg) ∧ Runs (GW L xs) (d + 1) 197 (10, [.ref 93, .int x1, .int x2, .int x3, .int (x4 + 1), vU, vU, vU, vU, vU], [], (zS (up2 I 97 ((x4).toNatClampNeg) 0) J tg)) r) else (¬ (x4 < 0 ∨ 64 ≤ (x4).toNatClampNeg) ∧ Runs (GW L xs) (d + 1) 197 (10, [.ref 93, .int x1, .int x2, .int x3, .int (x4 + 1), vU, vU, vU, vU, vU], [], (zS (up2 I 97 ((x4).toNatClampNeg) 1000000) J tg)) r)))))) : Runs (GW L xs) (d + 1) 197 (10, [.ref 93, .int x1, .int x2, .int x3, .int x4, vU, vU, vU, vU, vU], [], (zS I J tg)) r := by
  refine Runs.sN 4 (c' := (15, [.ref 93, .int x1, .int x2, .int x3, .int x4, vU, vU, vU, vU, vU], [.int (1 <<< (x3 &&& 31)), .int x4], (zS I J tg))) rfl ?_
  by_cases c1 : (1 <<< (x3 &&& 31)) ≤ x4
  · rw [if_pos c1] at h
    refine Runs.brT (P := (1 <<< (x3 &&& 31)) ≤ x4) (a := 42) (b := 18) (L := [.ref 93, .int x1, .int x2, .int x3, .int x4, vU, vU, vU, vU, vU]) (S := []) (z := (zS I J tg)) rfl c1 ?_
    refine Runs.sN 2 (c' := (45, [.ref 93, .int x1, .int x2, .int x3, .int 0, vU, vU, vU, vU, vU], [], (zS I J tg))) rfl ?_
    exact h
  · rw [if_neg c1] at h
    refine Runs.brF (P := (1 <<< (x3 &&& 31)) ≤ x4) (a := 42) (b := 18) (L := [.ref 93, .int x1, .int x2, .int x3, .int x4, vU, vU, vU, vU, vU]) (S := []) (z := (zS I J tg)) rfl c1 ?_
    refine Runs.sN 4 (c' := (26, [.ref 93, .int x1, .int x2, .int x3, .int x4, vU, vU, vU, vU, vU], [.int x4, .int x4, .ref 97], (zS I J tg))) rfl ?_
    by_cases c2 : x4 = 0
    · rw [if_pos c2] at h
      refine Runs.brT (P := x4 = 0) (a := 29) (b := 33) (L := [.ref 93, .int x1, .int x2, .int x3, .int x4, vU, vU, vU, vU, vU]) (S := [.int x4, .ref 97]) (z := (zS I J tg)) rfl c2 ?_
      refine Runs.sN 2 (c' := (35, [.ref 93, .int x1, .int x2, .int x3, .int x4, vU, vU, vU, vU, vU], [.int 0, .int x4, .ref 97], (zS I J tg))) rfl ?_
      obtain ⟨c3, h⟩ := h
      refine Runs.to (c' := (36, [.ref 93, .int x1, .int x2, .int x3, .int x4, vU, vU, vU, vU, vU], [], (zS (up2 I 97 ((x4).toNatClampNeg) 0) J tg))) (Runs.ist rfl (show (97 : Nat) < 114 by decide) rfl c3) ?_
      refine Runs.sN 2 (c' := (10, [.ref 93, .int x1, .int x2, .int x3, .int (x4 + 1), vU, vU, vU, vU, vU], [], (zS (up2 I 97 ((x4).toNatClampNeg) 0) J tg))) rfl ?_
      exact h
    · rw [if_neg c2] at h
      refine Runs.brF (P := x4 = 0) (a := 29) (b := 33) (L := [.ref 93, .int x1, .int x2, .int x3, .int x4, vU, vU, vU, vU, vU]) (S := [.int x4, .ref 97]) (z := (zS I J tg)) rfl c2 ?_
      refine Runs.sN 1 (c' := (35, [.ref 93, .int x1, .int x2, .int x3, .int x4, vU, vU, vU, vU, vU], [.int 1000000, .int x4, .ref 97], (zS I J tg))) rfl ?_
      obtain ⟨c4, h⟩ := h
      refine Runs.to (c' := (36, [.ref 93, .int x1, .int x2, .int x3, .int x4, vU, vU, vU, vU, vU], [], (zS (up2 I 97 ((x4).toNatClampNeg) 1000000) J tg))) (Runs.ist rfl (show (97 : Nat) < 114 by decide) rfl c4) ?_
      refine Runs.sN 2 (c' := (10, [.ref 93, .int x1, .int x2, .int x3, .int (x4 + 1), vU, vU, vU, vU, vU], [], (zS (up2 I 97 ((x4).toNatClampNeg) 1000000) J tg))) rfl ?_
      exact h
theorem sg_197_45 {L d : Nat} {xs : Nat → Int32} (I : Nat → Nat → Int32) (J : Nat → Nat → Int64) (tg : Option Nat) (x1 : Int32) (x2 : Int32) (x3 : Int32) (x4 : Int32) {r : Option Value × SS} (h : (∃ (v1 : Int32) (I2 : Nat → Nat → Int32) (J3 : Nat → Nat → Int64) (tg4 : Option Nat), Runs (GW L xs) d 184 (0, [.ref 93, .int x1, .int 0], [], (zS I J tg)) ((some (.int v1)), (zS I2 J3 tg4)) ∧ (if v1 ≤ x4 then (Runs (GW L xs) (d + 1) 197 (246, [.ref 93, .int x1, .int x2, .int x3, .int 1000000, .int 0, vU, vU, vU, vU], [], (zS I2 J3 tg4)) r) else (∃ (v5 : Int32) (I6 : Nat → Nat → Int32) (J7 : Nat → Nat → Int64) (tg8 : Option Nat), Runs (GW L xs) d 184 (0, [.ref 93, .int x1, .int (4 + x4)], [], (zS I2 J3 tg4)) ((some (.int v5)), (zS I6 J7 tg8)) ∧ Runs (GW L xs) (d + 1) 197 (70, [.ref 93, .int x1, .int x2, .int x3, .int x4, .int v5, .int 0, vU, vU, vU], [], (zS I6 J7 tg8)) r)))) : Runs (GW L xs) (d + 1) 197 (45, [.ref 93, .int x1, .int x2, .int x3, .int x4, vU, vU, vU, vU, vU], [], (zS I J tg)) r := by
  refine Runs.sN 4 (c' := (50, [.ref 93, .int x1, .int x2, .int x3, .int x4, vU, vU, vU, vU, vU], [.int 0, .int x1, .ref 93, .int x4], (zS I J tg))) rfl ?_
  obtain ⟨v1, I2, J3, tg4, c9, h⟩ := h
  refine Runs.cl (cm := 184) (as := [.ref 93, .int x1, .int 0]) (rest := [.int x4]) (r1 := ((some (.int v1)), (zS I2 J3 tg4))) rfl (Nat.le_of_ble_eq_true rfl) c9 ?_
  refine Runs.as (c' := (53, [.ref 93, .int x1, .int x2, .int x3, .int x4, vU, vU, vU, vU, vU], [.int v1, .int x4], (zS I2 J3 tg4))) rfl ?_
  by_cases c10 : v1 ≤ x4
  · rw [if_pos c10] at h
    refine Runs.brT (P := v1 ≤ x4) (a := 239) (b := 56) (L := [.ref 93, .int x1, .int x2, .int x3, .int x4, vU, vU, vU, vU, vU]) (S := []) (z := (zS I2 J3 tg4)) rfl c10 ?_
    refine Runs.sN 4 (c' := (246, [.ref 93, .int x1, .int x2, .int x3, .int 1000000, .int 0, vU, vU, vU, vU], [], (zS I2 J3 tg4))) rfl ?_
    exact h
  · rw [if_neg c10] at h
    refine Runs.brF (P := v1 ≤ x4) (a := 239) (b := 56) (L := [.ref 93, .int x1, .int x2, .int x3, .int x4, vU, vU, vU, vU, vU]) (S := []) (z := (zS I2 J3 tg4)) rfl c10 ?_
    refine Runs.sN 5 (c' := (62, [.ref 93, .int x1, .int x2, .int x3, .int x4, vU, vU, vU, vU, vU], [.int (4 + x4), .int x1, .ref 93], (zS I2 J3 tg4))) rfl ?_
    obtain ⟨v5, I6, J7, tg8, c11, h⟩ := h
    refine Runs.cl (cm := 184) (as := [.ref 93, .int x1, .int (4 + x4)]) (rest := []) (r1 := ((some (.int v5)), (zS I6 J7 tg8))) rfl (Nat.le_of_ble_eq_true rfl) c11 ?_
    refine Runs.as (c' := (65, [.ref 93, .int x1, .int x2, .int x3, .int x4, vU, vU, vU, vU, vU], [.int v5], (zS I6 J7 tg8))) rfl ?_
    refine Runs.sN 3 (c' := (70, [.ref 93, .int x1, .int x2, .int x3, .int x4, .int v5, .int 0, vU, vU, vU], [], (zS I6 J7 tg8))) rfl ?_
    exact h
theorem sg_197_70 {L d : Nat} {xs : Nat → Int32} (I : Nat → Nat → Int32) (J : Nat → Nat → Int64) (tg : Option Nat) (x1 : Int32) (x2 : Int32) (x3 : Int32) (x4 : Int32) (x5 : Int32) (x6 : Int32) {r : Option Value × SS} (h : ((if (1 <<< (x3 &&& 31)) ≤ x6 then (Runs (GW L xs) (d + 1) 197 (205, [.ref 93, .int x1, .int x2, .int x3, .int x4, .int x5, .int 0, vU, vU, vU], [], (zS I J tg)) r) else (¬ (x6 < 0 ∨ 64 ≤ (x6).toNatClampNeg) ∧ ¬ (x6 < 0 ∨ 64 ≤ (x6).toNatClampNeg) ∧ Runs (GW L xs) (d + 1) 197 (103, [.ref 93, .int x1, .int x2, .int x3, .int x4, .int x5, .int x6, .int 0, vU, vU], [], (zS (up2 I 98 ((x6).toNatClampNeg) ((I 97 ((x6).toNatClampNeg)) + (I 94 10))) J tg)) r)))) : Runs (GW L xs) (d + 1) 197 (70, [.ref 93, .int x1, .int x2, .int x3, .int x4, .int x5, .int x6, vU, vU, vU], [], (zS I J tg)) r := by
  refine Runs.sN 4 (c' := (75, [.ref 93, .int x1, .int x2, .int x3, .int x4, .int x5, .int x6, vU, vU, vU], [.int (1 <<< (x3 &&& 31)), .int x6], (zS I J tg))) rfl ?_
  by_cases c1 : (1 <<< (x3 &&& 31)) ≤ x6
  · rw [if_pos c1] at h
    refine Runs.brT (P := (1 <<< (x3 &&& 31)) ≤ x6) (a := 202) (b := 78) (L := [.ref 93, .int x1, .int x2, .int x3, .int x4, .int x5, .int x6, vU, vU, vU]) (S := []) (z := (zS I J tg)) rfl c1 ?_
    refine Runs.sN 2 (c' := (205, [.ref 93, .int x1, .int x2, .int x3, .int x4, .int x5, .int 0, vU, vU, vU], [], (zS I J tg))) rfl ?_
    exact h
  · rw [if_neg c1] at h
    refine Runs.brF (P := (1 <<< (x3 &&& 31)) ≤ x6) (a := 202) (b := 78) (L := [.ref 93, .int x1, .int x2, .int x3, .int x4, .int x5, .int x6, vU, vU, vU]) (S := []) (z := (zS I J tg)) rfl c1 ?_
    refine Runs.sN 6 (c' := (90, [.ref 93, .int x1, .int x2, .int x3, .int x4, .int x5, .int x6, vU, vU, vU], [.int x6, .ref 97, .int x6, .ref 98], (zS I J tg))) rfl ?_
    obtain ⟨c2, h⟩ := h
    refine Runs.to (c' := (91, [.ref 93, .int x1, .int x2, .int x3, .int x4, .int x5, .int x6, vU, vU, vU], [.int (I 97 ((x6).toNatClampNeg)), .int x6, .ref 98], (zS I J tg))) (Runs.ild rfl (show (97 : Nat) < 114 by decide) rfl c2) ?_
    refine Runs.sN 5 (c' := (99, [.ref 93, .int x1, .int x2, .int x3, .int x4, .int x5, .int x6, vU, vU, vU], [.int ((I 97 ((x6).toNatClampNeg)) + (I 94 10)), .int x6, .ref 98], (zS I J tg))) rfl ?_
    obtain ⟨c3, h⟩ := h
    refine Runs.to (c' := (100, [.ref 93, .int x1, .int x2, .int x3, .int x4, .int x5, .int x6, vU, vU, vU], [], (zS (up2 I 98 ((x6).toNatClampNeg) ((I 97 ((x6).toNatClampNeg)) + (I 94 10))) J tg))) (Runs.ist rfl (show (98 : Nat) < 114 by decide) rfl c3) ?_
    refine Runs.sN 2 (c' := (103, [.ref 93, .int x1, .int x2, .int x3, .int x4, .int x5, .int x6, .int 0, vU, vU], [], (zS (up2 I 98 ((x6).toNatClampNeg) ((I 97 ((x6).toNatClampNeg)) + (I 94 10))) J tg))) rfl ?_
    exact h
theorem sg_197_103 {L d : Nat} {xs : Nat → Int32} (I : Nat → Nat → Int32) (J : Nat → Nat → Int64) (tg : Option Nat) (x1 : Int32) (x2 : Int32) (x3 : Int32) (x4 : Int32) (x5 : Int32) (x6 : Int32) (x7 : Int32) {r : Option Value × SS} (h : ((if x3 ≤ x7 then (Runs (GW L xs) (d + 1) 197 (70, [.ref 93, .int x1, .int x2, .int x3, .int x4, .int x5, .int (x6 + 1), vU, vU, vU], [], (zS I J tg)) r) else (∃ (v1 : Int32) (I2 : Nat → Nat → Int32) (J3 : Nat → Nat → Int64) (tg4 : Option Nat), Runs (GW L xs) d 184 (0, [.ref 93, .int x2, .int (4 + x7)], [], (zS I J tg)) ((some (.int v1)), (zS I2 J3 tg4)) ∧ (if ((x6 >>> (x7 &&& 31)) &&& 1) = 0 then (Runs (GW L xs) (d + 1) 197 (103, [.ref 93, .int x1, .int x2, .int x3, .int x4, .int x5, .int x6, .int (x7 + 1), vU, vU], [], (zS I2 J3 tg4)) r) else ((if (x5 / 36) = (v1 / 36) then (¬ ((x6 ^^^ (1 <<< (x7 &&& 31))) < 0 ∨ 64 ≤ (x6 ^^^ (1 <<< (x7 &&& 31))).toNatClampNeg) ∧ ∃ (v5 : Int32) (I6 : Nat → Nat → Int32) (J7 : Nat → Nat → Int64) (tg8 : Option Nat), Runs (GW L xs) d 196 (0, [.ref 93, .int x5, .int v1, vU, vU], [], (zS I2 J3 tg4)) ((some (.int v5)), (zS I6 J7 tg8)) ∧ ¬ (x6 < 0 ∨ 64 ≤ (x6).toNatClampNeg) ∧ (if (I6 98 ((x6).toNatClampNeg)) ≤ ((I2 97 ((x6 ^^^ (1 <<< (x7 &&& 31))).toNatClampNeg)) + v5) then (Runs (GW L xs) (d + 1) 197 (103, [.ref 93, .int x1, .int x2, .int x3, .int x4, .int x5, .int x6, .int (x7 + 1), vU, vU], [], (zS I6 J7 tg8)) r) else (¬ (x6 < 0 ∨ 64 ≤ (x6).toNatClampNeg) ∧ Runs (GW L xs) (d + 1) 197 (103, [.ref 93, .int x1, .int x2, .int x3, .int x4, .int x5, .int x6, .int (x7 + 1), vU, vU], [], (zS (up2 I6 98 ((x6).toNatClampNeg) ((I2 97 ((x6 ^^^ (1 <<< (x7 &&& 31))).toNatClampNeg)) + v5)) J7 tg8)) r))) else (Runs (GW L xs) (d + 1) 197 (103, [.ref 93, .int x1, .int x2, .int x3, .int x4, .int x5, .int x6, .int (x7 + 1), vU, vU], [], (zS I2 J3 tg4)) r)))))))) : Runs (GW L xs) (d + 1) 197 (103, [.ref 93, .int x1, .int x2, .int x3, .int x4, .int x5, .int x6, .int x7, vU, vU], [], (zS I J tg)) r := by
  refine Runs.sN 2 (c' := (106, [.ref 93, .int x1, .int x2, .int x3, .int x4, .int x5, .int x6, .int x7, vU, vU], [.int x3, .int x7], (zS I J tg))) rfl ?_
  by_cases c9 : x3 ≤ x7
  · rw [if_pos c9] at h
    refine Runs.brT (P := x3 ≤ x7) (a := 196) (b := 109) (L := [.ref 93, .int x1, .int x2, .int x3, .int x4, .int x5, .int x6, .int x7, vU, vU]) (S := []) (z := (zS I J tg)) rfl c9 ?_
    refine Runs.sN 2 (c' := (70, [.ref 93, .int x1, .int x2, .int x3, .int x4, .int x5, .int (x6 + 1), .int x7, vU, vU], [], (zS I J tg))) rfl ?_
    exact Runs.weak (L := [.ref 93, .int x1, .int x2, .int x3, .int x4, .int x5, .int (x6 + 1), vU, vU, vU]) (Lle.k (Lle.k (Lle.k (Lle.k (Lle.k (Lle.k (Lle.k (Lle.u (Lle.k (Lle.k Lle.n)))))))))) h
  · rw [if_neg c9] at h
    refine Runs.brF (P := x3 ≤ x7) (a := 196) (b := 109) (L := [.ref 93, .int x1, .int x2, .int x3, .int x4, .int x5, .int x6, .int x7, vU, vU]) (S := []) (z := (zS I J tg)) rfl c9 ?_
    refine Runs.sN 5 (c' := (115, [.ref 93, .int x1, .int x2, .int x3, .int x4, .int x5, .int x6, .int x7, vU, vU], [.int (4 + x7), .int x2, .ref 93], (zS I J tg))) rfl ?_
    obtain ⟨v1, I2, J3, tg4, c10, h⟩ := h
    refine Runs.cl (cm := 184) (as := [.ref 93, .int x2, .int (4 + x7)]) (rest := []) (r1 := ((some (.int v1)), (zS I2 J3 tg4))) rfl (Nat.le_of_ble_eq_true rfl) c10 ?_
    refine Runs.as (c' := (118, [.ref 93, .int x1, .int x2, .int x3, .int x4, .int x5, .int x6, .int x7, vU, vU], [.int v1], (zS I2 J3 tg4))) rfl ?_
    refine Runs.sN 6 (c' := (127, [.ref 93, .int x1, .int x2, .int x3, .int x4, .int x5, .int x6, .int x7, .int v1, vU], [.int ((x6 >>> (x7 &&& 31)) &&& 1)], (zS I2 J3 tg4))) rfl ?_
    by_cases c11 : ((x6 >>> (x7 &&& 31)) &&& 1) = 0
    · rw [if_pos c11] at h
      refine Runs.brT (P := ((x6 >>> (x7 &&& 31)) &&& 1) = 0) (a := 190) (b := 130) (L := [.ref 93, .int x1, .int x2, .int x3, .int x4, .int x5, .int x6, .int x7, .int v1, vU]) (S := []) (z := (zS I2 J3 tg4)) rfl c11 ?_
      refine Runs.sN 2 (c' := (103, [.ref 93, .int x1, .int x2, .int x3, .int x4, .int x5, .int x6, .int (x7 + 1), .int v1, vU], [], (zS I2 J3 tg4))) rfl ?_
      exact Runs.weak (L := [.ref 93, .int x1, .int x2, .int x3, .int x4, .int x5, .int x6, .int (x7 + 1), vU, vU]) (Lle.k (Lle.k (Lle.k (Lle.k (Lle.k (Lle.k (Lle.k (Lle.k (Lle.u (Lle.k Lle.n)))))))))) h
    · rw [if_neg c11] at h
      refine Runs.brF (P := ((x6 >>> (x7 &&& 31)) &&& 1) = 0) (a := 190) (b := 130) (L := [.ref 93, .int x1, .int x2, .int x3, .int x4, .int x5, .int x6, .int x7, .int v1, vU]) (S := []) (z := (zS I2 J3 tg4)) rfl c11 ?_
      refine Runs.sN 6 (c' := (140, [.ref 93, .int x1, .int x2, .int x3, .int x4, .int x5, .int x6, .int x7, .int v1, vU], [.int (v1 / 36), .int (x5 / 36)], (zS I2 J3 tg4))) rfl ?_
      by_cases c12 : (x5 / 36) = (v1 / 36)
      · rw [if_pos c12] at h
        refine Runs.brT (P := (x5 / 36) = (v1 / 36)) (a := 146) (b := 143) (L := [.ref 93, .int x1, .int x2, .int x3, .int x4, .int x5, .int x6, .int x7, .int v1, vU]) (S := []) (z := (zS I2 J3 tg4)) rfl c12 ?_
        refine Runs.sN 7 (c' := (157, [.ref 93, .int x1, .int x2, .int x3, .int x4, .int x5, .int x6, .int x7, .int v1, vU], [.int (x6 ^^^ (1 <<< (x7 &&& 31))), .ref 97], (zS I2 J3 tg4))) rfl ?_
        obtain ⟨c13, h⟩ := h
        refine Runs.to (c' := (158, [.ref 93, .int x1, .int x2, .int x3, .int x4, .int x5, .int x6, .int x7, .int v1, vU], [.int (I2 97 ((x6 ^^^ (1 <<< (x7 &&& 31))).toNatClampNeg))], (zS I2 J3 tg4))) (Runs.ild rfl (show (97 : Nat) < 114 by decide) rfl c13) ?_
        refine Runs.sN 3 (c' := (163, [.ref 93, .int x1, .int x2, .int x3, .int x4, .int x5, .int x6, .int x7, .int v1, vU], [.int v1, .int x5, .ref 93, .int (I2 97 ((x6 ^^^ (1 <<< (x7 &&& 31))).toNatClampNeg))], (zS I2 J3 tg4))) rfl ?_
        obtain ⟨v5, I6, J7, tg8, c14, h⟩ := h
        refine Runs.cl (cm := 196) (as := [.ref 93, .int x5, .int v1]) (rest := [.int (I2 97 ((x6 ^^^ (1 <<< (x7 &&& 31))).toNatClampNeg))]) (r1 := ((some (.int v5)), (zS I6 J7 tg8))) rfl (Nat.le_of_ble_eq_true rfl) c14 ?_
        refine Runs.as (c' := (166, [.ref 93, .int x1, .int x2, .int x3, .int x4, .int x5, .int x6, .int x7, .int v1, vU], [.int v5, .int (I2 97 ((x6 ^^^ (1 <<< (x7 &&& 31))).toNatClampNeg))], (zS I6 J7 tg8))) rfl ?_
        refine Runs.sN 6 (c' := (177, [.ref 93, .int x1, .int x2, .int x3, .int x4, .int x5, .int x6, .int x7, .int v1, .int ((I2 97 ((x6 ^^^ (1 <<< (x7 &&& 31))).toNatClampNeg)) + v5)], [.int x6, .ref 98, .int ((I2 97 ((x6 ^^^ (1 <<< (x7 &&& 31))).toNatClampNeg)) + v5)], (zS I6 J7 tg8))) rfl ?_
        obtain ⟨c15, h⟩ := h
        refine Runs.to (c' := (178, [.ref 93, .int x1, .int x2, .int x3, .int x4, .int x5, .int x6, .int x7, .int v1, .int ((I2 97 ((x6 ^^^ (1 <<< (x7 &&& 31))).toNatClampNeg)) + v5)], [.int (I6 98 ((x6).toNatClampNeg)), .int ((I2 97 ((x6 ^^^ (1 <<< (x7 &&& 31))).toNatClampNeg)) + v5)], (zS I6 J7 tg8))) (Runs.ild rfl (show (98 : Nat) < 114 by decide) rfl c15) ?_
        by_cases c16 : (I6 98 ((x6).toNatClampNeg)) ≤ ((I2 97 ((x6 ^^^ (1 <<< (x7 &&& 31))).toNatClampNeg)) + v5)
        · rw [if_pos c16] at h
          refine Runs.brT (P := (I6 98 ((x6).toNatClampNeg)) ≤ ((I2 97 ((x6 ^^^ (1 <<< (x7 &&& 31))).toNatClampNeg)) + v5)) (a := 190) (b := 181) (L := [.ref 93, .int x1, .int x2, .int x3, .int x4, .int x5, .int x6, .int x7, .int v1, .int ((I2 97 ((x6 ^^^ (1 <<< (x7 &&& 31))).toNatClampNeg)) + v5)]) (S := []) (z := (zS I6 J7 tg8)) rfl c16 ?_
          refine Runs.sN 2 (c' := (103, [.ref 93, .int x1, .int x2, .int x3, .int x4, .int x5, .int x6, .int (x7 + 1), .int v1, .int ((I2 97 ((x6 ^^^ (1 <<< (x7 &&& 31))).toNatClampNeg)) + v5)], [], (zS I6 J7 tg8))) rfl ?_
          exact Runs.weak (L := [.ref 93, .int x1, .int x2, .int x3, .int x4, .int x5, .int x6, .int (x7 + 1), vU, vU]) (Lle.k (Lle.k (Lle.k (Lle.k (Lle.k (Lle.k (Lle.k (Lle.k (Lle.u (Lle.u Lle.n)))))))))) h
        · rw [if_neg c16] at h
          refine Runs.brF (P := (I6 98 ((x6).toNatClampNeg)) ≤ ((I2 97 ((x6 ^^^ (1 <<< (x7 &&& 31))).toNatClampNeg)) + v5)) (a := 190) (b := 181) (L := [.ref 93, .int x1, .int x2, .int x3, .int x4, .int x5, .int x6, .int x7, .int v1, .int ((I2 97 ((x6 ^^^ (1 <<< (x7 &&& 31))).toNatClampNeg)) + v5)]) (S := []) (z := (zS I6 J7 tg8)) rfl c16 ?_
          refine Runs.sN 4 (c' := (189, [.ref 93, .int x1, .int x2, .int x3, .int x4, .int x5, .int x6, .int x7, .int v1, .int ((I2 97 ((x6 ^^^ (1 <<< (x7 &&& 31))).toNatClampNeg)) + v5)], [.int ((I2 97 ((x6 ^^^ (1 <<< (x7 &&& 31))).toNatClampNeg)) + v5), .int x6, .ref 98], (zS I6 J7 tg8))) rfl ?_
          obtain ⟨c17, h⟩ := h
          refine Runs.to (c' := (190, [.ref 93, .int x1, .int x2, .int x3, .int x4, .int x5, .int x6, .int x7, .int v1, .int ((I2 97 ((x6 ^^^ (1 <<< (x7 &&& 31))).toNatClampNeg)) + v5)], [], (zS (up2 I6 98 ((x6).toNatClampNeg) ((I2 97 ((x6 ^^^ (1 <<< (x7 &&& 31))).toNatClampNeg)) + v5)) J7 tg8))) (Runs.ist rfl (show (98 : Nat) < 114 by decide) rfl c17) ?_
          refine Runs.sN 2 (c' := (103, [.ref 93, .int x1, .int x2, .int x3, .int x4, .int x5, .int x6, .int (x7 + 1), .int v1, .int ((I2 97 ((x6 ^^^ (1 <<< (x7 &&& 31))).toNatClampNeg)) + v5)], [], (zS (up2 I6 98 ((x6).toNatClampNeg) ((I2 97 ((x6 ^^^ (1 <<< (x7 &&& 31))).toNatClampNeg)) + v5)) J7 tg8))) rfl ?_
          exact Runs.weak (L := [.ref 93, .int x1, .int x2, .int x3, .int x4, .int x5, .int x6, .int (x7 + 1), vU, vU]) (Lle.k (Lle.k (Lle.k (Lle.k (Lle.k (Lle.k (Lle.k (Lle.k (Lle.u (Lle.u Lle.n)))))))))) h
      · rw [if_neg c12] at h
        refine Runs.brF (P := (x5 / 36) = (v1 / 36)) (a := 146) (b := 143) (L := [.ref 93, .int x1, .int x2, .int x3, .int x4, .int x5, .int x6, .int x7, .int v1, vU]) (S := []) (z := (zS I2 J3 tg4)) rfl c12 ?_
        refine Runs.sN 3 (c' := (103, [.ref 93, .int x1, .int x2, .int x3, .int x4, .int x5, .int x6, .int (x7 + 1), .int v1, vU], [], (zS I2 J3 tg4))) rfl ?_
        exact Runs.weak (L := [.ref 93, .int x1, .int x2, .int x3, .int x4, .int x5, .int x6, .int (x7 + 1), vU, vU]) (Lle.k (Lle.k (Lle.k (Lle.k (Lle.k (Lle.k (Lle.k (Lle.k (Lle.u (Lle.k Lle.n)))))))))) h
theorem sg_197_205 {L d : Nat} {xs : Nat → Int32} (I : Nat → Nat → Int32) (J : Nat → Nat → Int64) (tg : Option Nat) (x1 : Int32) (x2 : Int32) (x3 : Int32) (x4 : Int32) (x5 : Int32) (x6 : Int32) {r : Option Value × SS} (h : ((if (1 <<< (x3 &&& 31)) ≤ x6 then (Runs (GW L xs) (d + 1) 197 (45, [.ref 93, .int x1, .int x2, .int x3, .int (x4 + 1), vU, vU, vU, vU, vU], [], (zS I J tg)) r) else (¬ (x6 < 0 ∨ 64 ≤ (x6).toNatClampNeg) ∧ ¬ (x6 < 0 ∨ 64 ≤ (x6).toNatClampNeg) ∧ Runs (GW L xs) (d + 1) 197 (205, [.ref 93, .int x1, .int x2, .int x3, .int x4, .int x5, .int (x6 + 1), vU, vU, vU], [], (zS (up2 I 97 ((x6).toNatClampNeg) (I 98 ((x6).toNatClampNeg))) J tg)) r)))) : Runs (GW L xs) (d + 1) 197 (205, [.ref 93, .int x1, .int x2, .int x3, .int x4, .int x5, .int x6, vU, vU, vU], [], (zS I J tg)) r := by
  refine Runs.sN 4 (c' := (210, [.ref 93, .int x1, .int x2, .int x3, .int x4, .int x5, .int x6, vU, vU, vU], [.int (1 <<< (x3 &&& 31)), .int x6], (zS I J tg))) rfl ?_
  by_cases c1 : (1 <<< (x3 &&& 31)) ≤ x6
  · rw [if_pos c1] at h
    refine Runs.brT (P := (1 <<< (x3 &&& 31)) ≤ x6) (a := 233) (b := 213) (L := [.ref 93, .int x1, .int x2, .int x3, .int x4, .int x5, .int x6, vU, vU, vU]) (S := []) (z := (zS I J tg)) rfl c1 ?_
    refine Runs.sN 2 (c' := (45, [.ref 93, .int x1, .int x2, .int x3, .int (x4 + 1), .int x5, .int x6, vU, vU, vU], [], (zS I J tg))) rfl ?_
    exact Runs.weak (L := [.ref 93, .int x1, .int x2, .int x3, .int (x4 + 1), vU, vU, vU, vU, vU]) (Lle.k (Lle.k (Lle.k (Lle.k (Lle.k (Lle.u (Lle.u (Lle.k (Lle.k (Lle.k Lle.n)))))))))) h
  · rw [if_neg c1] at h
    refine Runs.brF (P := (1 <<< (x3 &&& 31)) ≤ x6) (a := 233) (b := 213) (L := [.ref 93, .int x1, .int x2, .int x3, .int x4, .int x5, .int x6, vU, vU, vU]) (S := []) (z := (zS I J tg)) rfl c1 ?_
    refine Runs.sN 6 (c' := (225, [.ref 93, .int x1, .int x2, .int x3, .int x4, .int x5, .int x6, vU, vU, vU], [.int x6, .ref 98, .int x6, .ref 97], (zS I J tg))) rfl ?_
    obtain ⟨c2, h⟩ := h
    refine Runs.to (c' := (226, [.ref 93, .int x1, .int x2, .int x3, .int x4, .int x5, .int x6, vU, vU, vU], [.int (I 98 ((x6).toNatClampNeg)), .int x6, .ref 97], (zS I J tg))) (Runs.ild rfl (show (98 : Nat) < 114 by decide) rfl c2) ?_
    obtain ⟨c3, h⟩ := h
    refine Runs.to (c' := (227, [.ref 93, .int x1, .int x2, .int x3, .int x4, .int x5, .int x6, vU, vU, vU], [], (zS (up2 I 97 ((x6).toNatClampNeg) (I 98 ((x6).toNatClampNeg))) J tg))) (Runs.ist rfl (show (97 : Nat) < 114 by decide) rfl c3) ?_
    refine Runs.sN 2 (c' := (205, [.ref 93, .int x1, .int x2, .int x3, .int x4, .int x5, .int (x6 + 1), vU, vU, vU], [], (zS (up2 I 97 ((x6).toNatClampNeg) (I 98 ((x6).toNatClampNeg))) J tg))) rfl ?_
    exact h
theorem sg_197_246 {L d : Nat} {xs : Nat → Int32} (I : Nat → Nat → Int32) (J : Nat → Nat → Int64) (tg : Option Nat) (x1 : Int32) (x2 : Int32) (x3 : Int32) (x4 : Int32) (x5 : Int32) {r : Option Value × SS} (h : ((if (1 <<< (x3 &&& 31)) ≤ x5 then (∃ (v1 : Int32) (I2 : Nat → Nat → Int32) (J3 : Nat → Nat → Int64) (tg4 : Option Nat), Runs (GW L xs) d 184 (0, [.ref 93, .int x1, .int 1], [], (zS I J tg)) ((some (.int v1)), (zS I2 J3 tg4)) ∧ ∃ (v5 : Int32) (I6 : Nat → Nat → Int32) (J7 : Nat → Nat → Int64) (tg8 : Option Nat), Runs (GW L xs) d 184 (0, [.ref 93, .int x2, .int 1], [], (zS I2 J3 tg4)) ((some (.int v5)), (zS I6 J7 tg8)) ∧ (if v1 = v5 then (r = (some (.int (x4 + 0)), (zS I6 J7 tg8))) else (r = (some (.int (x4 + (I6 94 11))), (zS I6 J7 tg8))))) else (¬ (x5 < 0 ∨ 64 ≤ (x5).toNatClampNeg) ∧ ∃ (v9 : Int32) (I10 : Nat → Nat → Int32) (J11 : Nat → Nat → Int64) (tg12 : Option Nat), Runs (GW L xs) d 185 (0, [.int x5, vU, vU], [], (zS I J tg)) ((some (.int v9)), (zS I10 J11 tg12)) ∧ (if x4 ≤ ((I 97 ((x5).toNatClampNeg)) + ((I 94 10) * (x3 - v9))) then (Runs (GW L xs) (d + 1) 197 (246, [.ref 93, .int x1, .int x2, .int x3, .int x4, .int (x5 + 1), vU, vU, vU, vU], [], (zS I10 J11 tg12)) r) else (Runs (GW L xs) (d + 1) 197 (246, [.ref 93, .int x1, .int x2, .int x3, .int ((I 97 ((x5).toNatClampNeg)) + ((I 94 10) * (x3 - v9))), .int (x5 + 1), vU, vU, vU, vU], [], (zS I10 J11 tg12)) r)))))) : Runs (GW L xs) (d + 1) 197 (246, [.ref 93, .int x1, .int x2, .int x3, .int x4, .int x5, vU, vU, vU, vU], [], (zS I J tg)) r := by
  refine Runs.sN 4 (c' := (251, [.ref 93, .int x1, .int x2, .int x3, .int x4, .int x5, vU, vU, vU, vU], [.int (1 <<< (x3 &&& 31)), .int x5], (zS I J tg))) rfl ?_
  by_cases c13 : (1 <<< (x3 &&& 31)) ≤ x5
  · rw [if_pos c13] at h
    refine Runs.brT (P := (1 <<< (x3 &&& 31)) ≤ x5) (a := 296) (b := 254) (L := [.ref 93, .int x1, .int x2, .int x3, .int x4, .int x5, vU, vU, vU, vU]) (S := []) (z := (zS I J tg)) rfl c13 ?_
    refine Runs.sN 4 (c' := (301, [.ref 93, .int x1, .int x2, .int x3, .int x4, .int x5, vU, vU, vU, vU], [.int 1, .int x1, .ref 93, .int x4], (zS I J tg))) rfl ?_
    obtain ⟨v1, I2, J3, tg4, c14, h⟩ := h
    refine Runs.cl (cm := 184) (as := [.ref 93, .int x1, .int 1]) (rest := [.int x4]) (r1 := ((some (.int v1)), (zS I2 J3 tg4))) rfl (Nat.le_of_ble_eq_true rfl) c14 ?_
    refine Runs.as (c' := (304, [.ref 93, .int x1, .int x2, .int x3, .int x4, .int x5, vU, vU, vU, vU], [.int v1, .int x4], (zS I2 J3 tg4))) rfl ?_
    refine Runs.sN 3 (c' := (307, [.ref 93, .int x1, .int x2, .int x3, .int x4, .int x5, vU, vU, vU, vU], [.int 1, .int x2, .ref 93, .int v1, .int x4], (zS I2 J3 tg4))) rfl ?_
    obtain ⟨v5, I6, J7, tg8, c15, h⟩ := h
    refine Runs.cl (cm := 184) (as := [.ref 93, .int x2, .int 1]) (rest := [.int v1, .int x4]) (r1 := ((some (.int v5)), (zS I6 J7 tg8))) rfl (Nat.le_of_ble_eq_true rfl) c15 ?_
    refine Runs.as (c' := (310, [.ref 93, .int x1, .int x2, .int x3, .int x4, .int x5, vU, vU, vU, vU], [.int v5, .int v1, .int x4], (zS I6 J7 tg8))) rfl ?_
    by_cases c16 : v1 = v5
    · rw [if_pos c16] at h
      refine Runs.brT (P := v1 = v5) (a := 323) (b := 313) (L := [.ref 93, .int x1, .int x2, .int x3, .int x4, .int x5, vU, vU, vU, vU]) (S := [.int x4]) (z := (zS I6 J7 tg8)) rfl c16 ?_
      refine Runs.sN 2 (c' := (325, [.ref 93, .int x1, .int x2, .int x3, .int x4, .int x5, vU, vU, vU, vU], [.int (x4 + 0)], (zS I6 J7 tg8))) rfl ?_
      subst h
      exact Runs.rt rfl
    · rw [if_neg c16] at h
      refine Runs.brF (P := v1 = v5) (a := 323) (b := 313) (L := [.ref 93, .int x1, .int x2, .int x3, .int x4, .int x5, vU, vU, vU, vU]) (S := [.int x4]) (z := (zS I6 J7 tg8)) rfl c16 ?_
      refine Runs.sN 6 (c' := (325, [.ref 93, .int x1, .int x2, .int x3, .int x4, .int x5, vU, vU, vU, vU], [.int (x4 + (I6 94 11))], (zS I6 J7 tg8))) rfl ?_
      subst h
      exact Runs.rt rfl
  · rw [if_neg c13] at h
    refine Runs.brF (P := (1 <<< (x3 &&& 31)) ≤ x5) (a := 296) (b := 254) (L := [.ref 93, .int x1, .int x2, .int x3, .int x4, .int x5, vU, vU, vU, vU]) (S := []) (z := (zS I J tg)) rfl c13 ?_
    refine Runs.sN 3 (c' := (260, [.ref 93, .int x1, .int x2, .int x3, .int x4, .int x5, vU, vU, vU, vU], [.int x5, .ref 97], (zS I J tg))) rfl ?_
    obtain ⟨c17, h⟩ := h
    refine Runs.to (c' := (261, [.ref 93, .int x1, .int x2, .int x3, .int x4, .int x5, vU, vU, vU, vU], [.int (I 97 ((x5).toNatClampNeg))], (zS I J tg))) (Runs.ild rfl (show (97 : Nat) < 114 by decide) rfl c17) ?_
    refine Runs.sN 6 (c' := (271, [.ref 93, .int x1, .int x2, .int x3, .int x4, .int x5, vU, vU, vU, vU], [.int x5, .int x3, .int (I 94 10), .int (I 97 ((x5).toNatClampNeg))], (zS I J tg))) rfl ?_
    obtain ⟨v9, I10, J11, tg12, c18, h⟩ := h
    refine Runs.cl (cm := 185) (as := [.int x5]) (rest := [.int x3, .int (I 94 10), .int (I 97 ((x5).toNatClampNeg))]) (r1 := ((some (.int v9)), (zS I10 J11 tg12))) rfl (Nat.le_of_ble_eq_true rfl) c18 ?_
    refine Runs.as (c' := (274, [.ref 93, .int x1, .int x2, .int x3, .int x4, .int x5, vU, vU, vU, vU], [.int v9, .int x3, .int (I 94 10), .int (I 97 ((x5).toNatClampNeg))], (zS I10 J11 tg12))) rfl ?_
    refine Runs.sN 6 (c' := (283, [.ref 93, .int x1, .int x2, .int x3, .int x4, .int x5, .int ((I 97 ((x5).toNatClampNeg)) + ((I 94 10) * (x3 - v9))), vU, vU, vU], [.int x4, .int ((I 97 ((x5).toNatClampNeg)) + ((I 94 10) * (x3 - v9)))], (zS I10 J11 tg12))) rfl ?_
    by_cases c19 : x4 ≤ ((I 97 ((x5).toNatClampNeg)) + ((I 94 10) * (x3 - v9)))
    · rw [if_pos c19] at h
      refine Runs.brT (P := x4 ≤ ((I 97 ((x5).toNatClampNeg)) + ((I 94 10) * (x3 - v9)))) (a := 290) (b := 286) (L := [.ref 93, .int x1, .int x2, .int x3, .int x4, .int x5, .int ((I 97 ((x5).toNatClampNeg)) + ((I 94 10) * (x3 - v9))), vU, vU, vU]) (S := []) (z := (zS I10 J11 tg12)) rfl c19 ?_
      refine Runs.sN 2 (c' := (246, [.ref 93, .int x1, .int x2, .int x3, .int x4, .int (x5 + 1), .int ((I 97 ((x5).toNatClampNeg)) + ((I 94 10) * (x3 - v9))), vU, vU, vU], [], (zS I10 J11 tg12))) rfl ?_
      exact Runs.weak (L := [.ref 93, .int x1, .int x2, .int x3, .int x4, .int (x5 + 1), vU, vU, vU, vU]) (Lle.k (Lle.k (Lle.k (Lle.k (Lle.k (Lle.k (Lle.u (Lle.k (Lle.k (Lle.k Lle.n)))))))))) h
    · rw [if_neg c19] at h
      refine Runs.brF (P := x4 ≤ ((I 97 ((x5).toNatClampNeg)) + ((I 94 10) * (x3 - v9)))) (a := 290) (b := 286) (L := [.ref 93, .int x1, .int x2, .int x3, .int x4, .int x5, .int ((I 97 ((x5).toNatClampNeg)) + ((I 94 10) * (x3 - v9))), vU, vU, vU]) (S := []) (z := (zS I10 J11 tg12)) rfl c19 ?_
      refine Runs.sN 4 (c' := (246, [.ref 93, .int x1, .int x2, .int x3, .int ((I 97 ((x5).toNatClampNeg)) + ((I 94 10) * (x3 - v9))), .int (x5 + 1), .int ((I 97 ((x5).toNatClampNeg)) + ((I 94 10) * (x3 - v9))), vU, vU, vU], [], (zS I10 J11 tg12))) rfl ?_
      exact Runs.weak (L := [.ref 93, .int x1, .int x2, .int x3, .int ((I 97 ((x5).toNatClampNeg)) + ((I 94 10) * (x3 - v9))), .int (x5 + 1), vU, vU, vU, vU]) (Lle.k (Lle.k (Lle.k (Lle.k (Lle.k (Lle.k (Lle.u (Lle.k (Lle.k (Lle.k Lle.n)))))))))) h
-- X12_far 
theorem sg_198 {L d : Nat} {xs : Nat → Int32} (I : Nat → Nat → Int32) (J : Nat → Nat → Int64) (tg : Option Nat) (a1 : Int32) (a2 : Int32) {r : Option Value × SS} (h : (∃ (v13 : Int32) (I14 : Nat → Nat → Int32) (J15 : Nat → Nat → Int64) (tg16 : Option Nat), Runs (GW L xs) d 181 (0, [.ref 93, .int a1], [], (zS I J tg)) ((some (.int v13)), (zS I14 J15 tg16)) ∧ (if v13 = 0 then (r = (some (.int (-1)), (zS I14 J15 tg16))) else (∃ (v17 : Int32) (I18 : Nat → Nat → Int32) (J19 : Nat → Nat → Int64) (tg20 : Option Nat), Runs (GW L xs) d 181 (0, [.ref 93, .int a2], [], (zS I14 J15 tg16)) ((some (.int v17)), (zS I18 J19 tg20)) ∧ (if v17 = 0 then (r = (some (.int (-1)), (zS I18 J19 tg20))) else (∃ (v21 : Int32) (I22 : Nat → Nat → Int32) (J23 : Nat → Nat → Int64) (tg24 : Option Nat), Runs (GW L xs) d 197 (0, [.ref 93, .int a1, .int a2, vU, vU, vU, vU, vU, vU, vU], [], (zS I18 J19 tg20)) ((some (.int v21)), (zS I22 J23 tg24)) ∧ r = (some (.int v21), (zS I22 J23 tg24)))))))) : Runs (GW L xs) (d + 1) 198 (0, [.ref 93, .int a1, .int a2], [], (zS I J tg)) r := by
  refine Runs.sN 2 (c' := (2, [.ref 93, .int a1, .int a2], [.int a1, .ref 93], (zS I J tg))) rfl ?_
  obtain ⟨v13, I14, J15, tg16, c25, h⟩ := h
  refine Runs.cl (cm := 181) (as := [.ref 93, .int a1]) (rest := []) (r1 := ((some (.int v13)), (zS I14 J15 tg16))) rfl (Nat.le_of_ble_eq_true rfl) c25 ?_
  refine Runs.as (c' := (5, [.ref 93, .int a1, .int a2], [.int v13], (zS I14 J15 tg16))) rfl ?_
  by_cases c26 : v13 = 0
  · rw [if_pos c26] at h
    refine Runs.brT (P := v13 = 0) (a := 25) (b := 8) (L := [.ref 93, .int a1, .int a2]) (S := []) (z := (zS I14 J15 tg16)) rfl c26 ?_
    refine Runs.sN 1 (c' := (26, [.ref 93, .int a1, .int a2], [.int (-1)], (zS I14 J15 tg16))) rfl ?_
    subst h
    exact Runs.rt rfl
  · rw [if_neg c26] at h
    refine Runs.brF (P := v13 = 0) (a := 25) (b := 8) (L := [.ref 93, .int a1, .int a2]) (S := []) (z := (zS I14 J15 tg16)) rfl c26 ?_
    refine Runs.sN 2 (c' := (10, [.ref 93, .int a1, .int a2], [.int a2, .ref 93], (zS I14 J15 tg16))) rfl ?_
    obtain ⟨v17, I18, J19, tg20, c27, h⟩ := h
    refine Runs.cl (cm := 181) (as := [.ref 93, .int a2]) (rest := []) (r1 := ((some (.int v17)), (zS I18 J19 tg20))) rfl (Nat.le_of_ble_eq_true rfl) c27 ?_
    refine Runs.as (c' := (13, [.ref 93, .int a1, .int a2], [.int v17], (zS I18 J19 tg20))) rfl ?_
    by_cases c28 : v17 = 0
    · rw [if_pos c28] at h
      refine Runs.brT (P := v17 = 0) (a := 25) (b := 16) (L := [.ref 93, .int a1, .int a2]) (S := []) (z := (zS I18 J19 tg20)) rfl c28 ?_
      refine Runs.sN 1 (c' := (26, [.ref 93, .int a1, .int a2], [.int (-1)], (zS I18 J19 tg20))) rfl ?_
      subst h
      exact Runs.rt rfl
    · rw [if_neg c28] at h
      refine Runs.brF (P := v17 = 0) (a := 25) (b := 16) (L := [.ref 93, .int a1, .int a2]) (S := []) (z := (zS I18 J19 tg20)) rfl c28 ?_
      refine Runs.sN 3 (c' := (19, [.ref 93, .int a1, .int a2], [.int a2, .int a1, .ref 93], (zS I18 J19 tg20))) rfl ?_
      obtain ⟨v21, I22, J23, tg24, c29, h⟩ := h
      refine Runs.cl (cm := 197) (as := [.ref 93, .int a1, .int a2]) (rest := []) (r1 := ((some (.int v21)), (zS I22 J23 tg24))) rfl (Nat.le_of_ble_eq_true rfl) c29 ?_
      refine Runs.as (c' := (22, [.ref 93, .int a1, .int a2], [.int v21], (zS I22 J23 tg24))) rfl ?_
      refine Runs.sN 1 (c' := (26, [.ref 93, .int a1, .int a2], [.int v21], (zS I22 J23 tg24))) rfl ?_
      subst h
      exact Runs.rt rfl
-- X12_told 
theorem sg_199 {L d : Nat} {xs : Nat → Int32} (I : Nat → Nat → Int32) (J : Nat → Nat → Int64) (tg : Option Nat) {r : Option Value × SS} (h : (r = (some (.int ((1 <<< ((I 94 2) &&& 31)) - 1)), (zS I J tg)))) : Runs (GW L xs) d 199 (0, [.ref 93], [], (zS I J tg)) r := by
  refine Runs.sN 8 (c' := (10, [.ref 93], [.int ((1 <<< ((I 94 2) &&& 31)) - 1)], (zS I J tg))) rfl ?_
  subst h
  exact Runs.rt rfl
-- X12_land 
theorem sg_200 {L d : Nat} {xs : Nat → Int32} (I : Nat → Nat → Int32) (J : Nat → Nat → Int64) (tg : Option Nat) (a1 : Int32) (a2 : Int32) (a3 : Int32) {r : Option Value × SS} (h : (∃ (v13 : Int32) (I14 : Nat → Nat → Int32) (J15 : Nat → Nat → Int64) (tg16 : Option Nat), Runs (GW L xs) d 182 (0, [.int a1], [], (zS I J tg)) ((some (.int v13)), (zS I14 J15 tg16)) ∧ (if v13 = 0 then (r = (some (.int 0), (zS I14 J15 tg16))) else (∃ (v17 : Int32) (I18 : Nat → Nat → Int32) (J19 : Nat → Nat → Int64) (tg20 : Option Nat), Runs (GW L xs) d 194 (0, [.int a2], [], (zS I14 J15 tg16)) ((some (.int v17)), (zS I18 J19 tg20)) ∧ (if v17 = 0 then (r = (some (.int 0), (zS I18 J19 tg20))) else (¬ ((680 + a1) < 0 ∨ 1200 ≤ (680 + a1).toNatClampNeg) ∧ ∃ (v21 : Int32) (I22 : Nat → Nat → Int32) (J23 : Nat → Nat → Int64) (tg24 : Option Nat), Runs (GW L xs) d 199 (0, [.ref 93], [], (zS (up2 I18 94 ((680 + a1).toNatClampNeg) a2) J19 tg20)) ((some (.int v21)), (zS I22 J23 tg24)) ∧ ¬ ((690 + a1) < 0 ∨ 1200 ≤ (690 + a1).toNatClampNeg) ∧ r = (some (.int 1), (zS (up2 I22 94 ((690 + a1).toNatClampNeg) (a3 &&& v21)) J23 tg24)))))))) : Runs (GW L xs) (d + 1) 200 (0, [.ref 93, .int a1, .int a2, .int a3], [], (zS I J tg)) r := by
  refine Runs.sN 1 (c' := (1, [.ref 93, .int a1, .int a2, .int a3], [.int a1], (zS I J tg))) rfl ?_
  obtain ⟨v13, I14, J15, tg16, c25, h⟩ := h
  refine Runs.cl (cm := 182) (as := [.int a1]) (rest := []) (r1 := ((some (.int v13)), (zS I14 J15 tg16))) rfl (Nat.le_of_ble_eq_true rfl) c25 ?_
  refine Runs.as (c' := (4, [.ref 93, .int a1, .int a2, .int a3], [.int v13], (zS I14 J15 tg16))) rfl ?_
  by_cases c26 : v13 = 0
  · rw [if_pos c26] at h
    refine Runs.brT (P := v13 = 0) (a := 14) (b := 7) (L := [.ref 93, .int a1, .int a2, .int a3]) (S := []) (z := (zS I14 J15 tg16)) rfl c26 ?_
    refine Runs.sN 1 (c' := (15, [.ref 93, .int a1, .int a2, .int a3], [.int 0], (zS I14 J15 tg16))) rfl ?_
    subst h
    exact Runs.rt rfl
  · rw [if_neg c26] at h
    refine Runs.brF (P := v13 = 0) (a := 14) (b := 7) (L := [.ref 93, .int a1, .int a2, .int a3]) (S := []) (z := (zS I14 J15 tg16)) rfl c26 ?_
    refine Runs.sN 1 (c' := (8, [.ref 93, .int a1, .int a2, .int a3], [.int a2], (zS I14 J15 tg16))) rfl ?_
    obtain ⟨v17, I18, J19, tg20, c27, h⟩ := h
    refine Runs.cl (cm := 194) (as := [.int a2]) (rest := []) (r1 := ((some (.int v17)), (zS I18 J19 tg20))) rfl (Nat.le_of_ble_eq_true rfl) c27 ?_
    refine Runs.as (c' := (11, [.ref 93, .int a1, .int a2, .int a3], [.int v17], (zS I18 J19 tg20))) rfl ?_
    by_cases c28 : v17 = 0
    · rw [if_pos c28] at h
      refine Runs.brT (P := v17 = 0) (a := 14) (b := 16) (L := [.ref 93, .int a1, .int a2, .int a3]) (S := []) (z := (zS I18 J19 tg20)) rfl c28 ?_
      refine Runs.sN 1 (c' := (15, [.ref 93, .int a1, .int a2, .int a3], [.int 0], (zS I18 J19 tg20))) rfl ?_
      subst h
      exact Runs.rt rfl
    · rw [if_neg c28] at h
      refine Runs.brF (P := v17 = 0) (a := 14) (b := 16) (L := [.ref 93, .int a1, .int a2, .int a3]) (S := []) (z := (zS I18 J19 tg20)) rfl c28 ?_
      refine Runs.sN 6 (c' := (26, [.ref 93, .int a1, .int a2, .int a3], [.int a2, .int (680 + a1), .ref 94], (zS I18 J19 tg20))) rfl ?_
      obtain ⟨c29, h⟩ := h
      refine Runs.to (c' := (27, [.ref 93, .int a1, .int a2, .int a3], [], (zS (up2 I18 94 ((680 + a1).toNatClampNeg) a2) J19 tg20))) (Runs.ist rfl (show (94 : Nat) < 114 by decide) rfl c29) ?_
      refine Runs.sN 7 (c' := (38, [.ref 93, .int a1, .int a2, .int a3], [.ref 93, .int a3, .int (690 + a1), .ref 94], (zS (up2 I18 94 ((680 + a1).toNatClampNeg) a2) J19 tg20))) rfl ?_
      obtain ⟨v21, I22, J23, tg24, c30, h⟩ := h
      refine Runs.cl (cm := 199) (as := [.ref 93]) (rest := [.int a3, .int (690 + a1), .ref 94]) (r1 := ((some (.int v21)), (zS I22 J23 tg24))) rfl (Nat.le_of_ble_eq_true rfl) c30 ?_
      refine Runs.as (c' := (41, [.ref 93, .int a1, .int a2, .int a3], [.int v21, .int a3, .int (690 + a1), .ref 94], (zS I22 J23 tg24))) rfl ?_
      refine Runs.sN 1 (c' := (42, [.ref 93, .int a1, .int a2, .int a3], [.int (a3 &&& v21), .int (690 + a1), .ref 94], (zS I22 J23 tg24))) rfl ?_
      obtain ⟨c31, h⟩ := h
      refine Runs.to (c' := (43, [.ref 93, .int a1, .int a2, .int a3], [], (zS (up2 I22 94 ((690 + a1).toNatClampNeg) (a3 &&& v21)) J23 tg24))) (Runs.ist rfl (show (94 : Nat) < 114 by decide) rfl c31) ?_
      refine Runs.sN 1 (c' := (44, [.ref 93, .int a1, .int a2, .int a3], [.int 1], (zS (up2 I22 94 ((690 + a1).toNatClampNeg) (a3 &&& v21)) J23 tg24))) rfl ?_
      subst h
      exact Runs.rt rfl
-- X12_lean 
theorem sg_201 {L d : Nat} {xs : Nat → Int32} (I : Nat → Nat → Int32) (J : Nat → Nat → Int64) (tg : Option Nat) (a1 : Int32) (a2 : Int32) (a3 : Int32) {r : Option Value × SS} (h : (∃ (v13 : Int32) (I14 : Nat → Nat → Int32) (J15 : Nat → Nat → Int64) (tg16 : Option Nat), Runs (GW L xs) d 182 (0, [.int a1], [], (zS I J tg)) ((some (.int v13)), (zS I14 J15 tg16)) ∧ (if v13 = 0 then (r = (some (.int 0), (zS I14 J15 tg16))) else (∃ (v17 : Int32) (I18 : Nat → Nat → Int32) (J19 : Nat → Nat → Int64) (tg20 : Option Nat), Runs (GW L xs) d 180 (0, [.ref 93, .int a2], [], (zS I14 J15 tg16)) ((some (.int v17)), (zS I18 J19 tg20)) ∧ (if v17 = 0 then (r = (some (.int 0), (zS I18 J19 tg20))) else (∃ (v21 : Int32) (I22 : Nat → Nat → Int32) (J23 : Nat → Nat → Int64) (tg24 : Option Nat), Runs (GW L xs) d 194 (0, [.int a3], [], (zS I18 J19 tg20)) ((some (.int v21)), (zS I22 J23 tg24)) ∧ (if v21 = 0 then (r = (some (.int 0), (zS I22 J23 tg24))) else (¬ ((((700 + (12 * a1)) + a2) - 12) < 0 ∨ 1200 ≤ (((700 + (12 * a1)) + a2) - 12).toNatClampNeg) ∧ r = (some (.int 1), (zS (up2 I22 94 ((((700 + (12 * a1)) + a2) - 12).toNatClampNeg) a3) J23 tg24)))))))))) : Runs (GW L xs) (d + 1) 201 (0, [.ref 93, .int a1, .int a2, .int a3], [], (zS I J tg)) r := by
  refine Runs.sN 1 (c' := (1, [.ref 93, .int a1, .int a2, .int a3], [.int a1], (zS I J tg))) rfl ?_
  obtain ⟨v13, I14, J15, tg16, c25, h⟩ := h
  refine Runs.cl (cm := 182) (as := [.int a1]) (rest := []) (r1 := ((some (.int v13)), (zS I14 J15 tg16))) rfl (Nat.le_of_ble_eq_true rfl) c25 ?_
  refine Runs.as (c' := (4, [.ref 93, .int a1, .int a2, .int a3], [.int v13], (zS I14 J15 tg16))) rfl ?_
  by_cases c26 : v13 = 0
  · rw [if_pos c26] at h
    refine Runs.brT (P := v13 = 0) (a := 22) (b := 7) (L := [.ref 93, .int a1, .int a2, .int a3]) (S := []) (z := (zS I14 J15 tg16)) rfl c26 ?_
    refine Runs.sN 1 (c' := (23, [.ref 93, .int a1, .int a2, .int a3], [.int 0], (zS I14 J15 tg16))) rfl ?_
    subst h
    exact Runs.rt rfl
  · rw [if_neg c26] at h
    refine Runs.brF (P := v13 = 0) (a := 22) (b := 7) (L := [.ref 93, .int a1, .int a2, .int a3]) (S := []) (z := (zS I14 J15 tg16)) rfl c26 ?_
    refine Runs.sN 2 (c' := (9, [.ref 93, .int a1, .int a2, .int a3], [.int a2, .ref 93], (zS I14 J15 tg16))) rfl ?_
    obtain ⟨v17, I18, J19, tg20, c27, h⟩ := h
    refine Runs.cl (cm := 180) (as := [.ref 93, .int a2]) (rest := []) (r1 := ((some (.int v17)), (zS I18 J19 tg20))) rfl (Nat.le_of_ble_eq_true rfl) c27 ?_
    refine Runs.as (c' := (12, [.ref 93, .int a1, .int a2, .int a3], [.int v17], (zS I18 J19 tg20))) rfl ?_
    by_cases c28 : v17 = 0
    · rw [if_pos c28] at h
      refine Runs.brT (P := v17 = 0) (a := 22) (b := 15) (L := [.ref 93, .int a1, .int a2, .int a3]) (S := []) (z := (zS I18 J19 tg20)) rfl c28 ?_
      refine Runs.sN 1 (c' := (23, [.ref 93, .int a1, .int a2, .int a3], [.int 0], (zS I18 J19 tg20))) rfl ?_
      subst h
      exact Runs.rt rfl
    · rw [if_neg c28] at h
      refine Runs.brF (P := v17 = 0) (a := 22) (b := 15) (L := [.ref 93, .int a1, .int a2, .int a3]) (S := []) (z := (zS I18 J19 tg20)) rfl c28 ?_
      refine Runs.sN 1 (c' := (16, [.ref 93, .int a1, .int a2, .int a3], [.int a3], (zS I18 J19 tg20))) rfl ?_
      obtain ⟨v21, I22, J23, tg24, c29, h⟩ := h
      refine Runs.cl (cm := 194) (as := [.int a3]) (rest := []) (r1 := ((some (.int v21)), (zS I22 J23 tg24))) rfl (Nat.le_of_ble_eq_true rfl) c29 ?_
      refine Runs.as (c' := (19, [.ref 93, .int a1, .int a2, .int a3], [.int v21], (zS I22 J23 tg24))) rfl ?_
      by_cases c30 : v21 = 0
      · rw [if_pos c30] at h
        refine Runs.brT (P := v21 = 0) (a := 22) (b := 24) (L := [.ref 93, .int a1, .int a2, .int a3]) (S := []) (z := (zS I22 J23 tg24)) rfl c30 ?_
        refine Runs.sN 1 (c' := (23, [.ref 93, .int a1, .int a2, .int a3], [.int 0], (zS I22 J23 tg24))) rfl ?_
        subst h
        exact Runs.rt rfl
      · rw [if_neg c30] at h
        refine Runs.brF (P := v21 = 0) (a := 22) (b := 24) (L := [.ref 93, .int a1, .int a2, .int a3]) (S := []) (z := (zS I22 J23 tg24)) rfl c30 ?_
        refine Runs.sN 12 (c' := (42, [.ref 93, .int a1, .int a2, .int a3], [.int a3, .int (((700 + (12 * a1)) + a2) - 12), .ref 94], (zS I22 J23 tg24))) rfl ?_
        obtain ⟨c31, h⟩ := h
        refine Runs.to (c' := (43, [.ref 93, .int a1, .int a2, .int a3], [], (zS (up2 I22 94 ((((700 + (12 * a1)) + a2) - 12).toNatClampNeg) a3) J23 tg24))) (Runs.ist rfl (show (94 : Nat) < 114 by decide) rfl c31) ?_
        refine Runs.sN 1 (c' := (44, [.ref 93, .int a1, .int a2, .int a3], [.int 1], (zS (up2 I22 94 ((((700 + (12 * a1)) + a2) - 12).toNatClampNeg) a3) J23 tg24))) rfl ?_
        subst h
        exact Runs.rt rfl
-- X12_rules 
theorem sg_202 {L d : Nat} {xs : Nat → Int32} (I : Nat → Nat → Int32) (J : Nat → Nat → Int64) (tg : Option Nat) (a1 : Int32) (a2 : Int32) (a3 : Int32) (a4 : Int32) {r : Option Value × SS} (h : (∃ (v17 : Int32) (I18 : Nat → Nat → Int32) (J19 : Nat → Nat → Int64) (tg20 : Option Nat), Runs (GW L xs) d 177 (0, [.int a1, .int 0, .int 999], [], (zS I J tg)) ((some (.int v17)), (zS I18 J19 tg20)) ∧ (if v17 = 0 then (r = (some (.int 0), (zS I18 J19 tg20))) else (∃ (v21 : Int32) (I22 : Nat → Nat → Int32) (J23 : Nat → Nat → Int64) (tg24 : Option Nat), Runs (GW L xs) d 194 (0, [.int a2], [], (zS I18 J19 tg20)) ((some (.int v21)), (zS I22 J23 tg24)) ∧ (if v21 = 0 then (r = (some (.int 0), (zS I22 J23 tg24))) else (∃ (v25 : Int32) (I26 : Nat → Nat → Int32) (J27 : Nat → Nat → Int64) (tg28 : Option Nat), Runs (GW L xs) d 177 (0, [.int a3, .int 1, .int 1000], [], (zS I22 J23 tg24)) ((some (.int v25)), (zS I26 J27 tg28)) ∧ (if v25 = 0 then (r = (some (.int 0), (zS I26 J27 tg28))) else (∃ (v29 : Int32) (I30 : Nat → Nat → Int32) (J31 : Nat → Nat → Int64) (tg32 : Option Nat), Runs (GW L xs) d 177 (0, [.int a4, .int 0, .int 1000], [], (zS I26 J27 tg28)) ((some (.int v29)), (zS I30 J31 tg32)) ∧ (if v29 = 0 then (r = (some (.int 0), (zS I30 J31 tg32))) else (r = (some (.int 1), (zS (up2 (up2 (up2 (up2 I30 94 12 a1) 94 13 a2) 94 14 a3) 94 15 a4) J31 tg32)))))))))))) : Runs (GW L xs) (d + 1) 202 (0, [.ref 93, .int a1, .int a2, .int a3, .int a4], [], (zS I J tg)) r := by
  refine Runs.sN 3 (c' := (5, [.ref 93, .int a1, .int a2, .int a3, .int a4], [.int 999, .int 0, .int a1], (zS I J tg))) rfl ?_
  obtain ⟨v17, I18, J19, tg20, c33, h⟩ := h
  refine Runs.cl (cm := 177) (as := [.int a1, .int 0, .int 999]) (rest := []) (r1 := ((some (.int v17)), (zS I18 J19 tg20))) rfl (Nat.le_of_ble_eq_true rfl) c33 ?_
  refine Runs.as (c' := (8, [.ref 93, .int a1, .int a2, .int a3, .int a4], [.int v17], (zS I18 J19 tg20))) rfl ?_
  by_cases c34 : v17 = 0
  · rw [if_pos c34] at h
    refine Runs.brT (P := v17 = 0) (a := 41) (b := 11) (L := [.ref 93, .int a1, .int a2, .int a3, .int a4]) (S := []) (z := (zS I18 J19 tg20)) rfl c34 ?_
    refine Runs.sN 1 (c' := (42, [.ref 93, .int a1, .int a2, .int a3, .int a4], [.int 0], (zS I18 J19 tg20))) rfl ?_
    subst h
    exact Runs.rt rfl
  · rw [if_neg c34] at h
    refine Runs.brF (P := v17 = 0) (a := 41) (b := 11) (L := [.ref 93, .int a1, .int a2, .int a3, .int a4]) (S := []) (z := (zS I18 J19 tg20)) rfl c34 ?_
    refine Runs.sN 1 (c' := (12, [.ref 93, .int a1, .int a2, .int a3, .int a4], [.int a2], (zS I18 J19 tg20))) rfl ?_
    obtain ⟨v21, I22, J23, tg24, c35, h⟩ := h
    refine Runs.cl (cm := 194) (as := [.int a2]) (rest := []) (r1 := ((some (.int v21)), (zS I22 J23 tg24))) rfl (Nat.le_of_ble_eq_true rfl) c35 ?_
    refine Runs.as (c' := (15, [.ref 93, .int a1, .int a2, .int a3, .int a4], [.int v21], (zS I22 J23 tg24))) rfl ?_
    by_cases c36 : v21 = 0
    · rw [if_pos c36] at h
      refine Runs.brT (P := v21 = 0) (a := 41) (b := 18) (L := [.ref 93, .int a1, .int a2, .int a3, .int a4]) (S := []) (z := (zS I22 J23 tg24)) rfl c36 ?_
      refine Runs.sN 1 (c' := (42, [.ref 93, .int a1, .int a2, .int a3, .int a4], [.int 0], (zS I22 J23 tg24))) rfl ?_
      subst h
      exact Runs.rt rfl
    · rw [if_neg c36] at h
      refine Runs.brF (P := v21 = 0) (a := 41) (b := 18) (L := [.ref 93, .int a1, .int a2, .int a3, .int a4]) (S := []) (z := (zS I22 J23 tg24)) rfl c36 ?_
      refine Runs.sN 3 (c' := (23, [.ref 93, .int a1, .int a2, .int a3, .int a4], [.int 1000, .int 1, .int a3], (zS I22 J23 tg24))) rfl ?_
      obtain ⟨v25, I26, J27, tg28, c37, h⟩ := h
      refine Runs.cl (cm := 177) (as := [.int a3, .int 1, .int 1000]) (rest := []) (r1 := ((some (.int v25)), (zS I26 J27 tg28))) rfl (Nat.le_of_ble_eq_true rfl) c37 ?_
      refine Runs.as (c' := (26, [.ref 93, .int a1, .int a2, .int a3, .int a4], [.int v25], (zS I26 J27 tg28))) rfl ?_
      by_cases c38 : v25 = 0
      · rw [if_pos c38] at h
        refine Runs.brT (P := v25 = 0) (a := 41) (b := 29) (L := [.ref 93, .int a1, .int a2, .int a3, .int a4]) (S := []) (z := (zS I26 J27 tg28)) rfl c38 ?_
        refine Runs.sN 1 (c' := (42, [.ref 93, .int a1, .int a2, .int a3, .int a4], [.int 0], (zS I26 J27 tg28))) rfl ?_
        subst h
        exact Runs.rt rfl
      · rw [if_neg c38] at h
        refine Runs.brF (P := v25 = 0) (a := 41) (b := 29) (L := [.ref 93, .int a1, .int a2, .int a3, .int a4]) (S := []) (z := (zS I26 J27 tg28)) rfl c38 ?_
        refine Runs.sN 3 (c' := (35, [.ref 93, .int a1, .int a2, .int a3, .int a4], [.int 1000, .int 0, .int a4], (zS I26 J27 tg28))) rfl ?_
        obtain ⟨v29, I30, J31, tg32, c39, h⟩ := h
        refine Runs.cl (cm := 177) (as := [.int a4, .int 0, .int 1000]) (rest := []) (r1 := ((some (.int v29)), (zS I30 J31 tg32))) rfl (Nat.le_of_ble_eq_true rfl) c39 ?_
        refine Runs.as (c' := (38, [.ref 93, .int a1, .int a2, .int a3, .int a4], [.int v29], (zS I30 J31 tg32))) rfl ?_
        by_cases c40 : v29 = 0
        · rw [if_pos c40] at h
          refine Runs.brT (P := v29 = 0) (a := 41) (b := 43) (L := [.ref 93, .int a1, .int a2, .int a3, .int a4]) (S := []) (z := (zS I30 J31 tg32)) rfl c40 ?_
          refine Runs.sN 1 (c' := (42, [.ref 93, .int a1, .int a2, .int a3, .int a4], [.int 0], (zS I30 J31 tg32))) rfl ?_
          subst h
          exact Runs.rt rfl
        · rw [if_neg c40] at h
          refine Runs.brF (P := v29 = 0) (a := 41) (b := 43) (L := [.ref 93, .int a1, .int a2, .int a3, .int a4]) (S := []) (z := (zS I30 J31 tg32)) rfl c40 ?_
          refine Runs.sN 21 (c' := (77, [.ref 93, .int a1, .int a2, .int a3, .int a4], [.int 1], (zS (up2 (up2 (up2 (up2 I30 94 12 a1) 94 13 a2) 94 14 a3) 94 15 a4) J31 tg32))) rfl ?_
          subst h
          exact Runs.rt rfl
-- X12_measure 
theorem sg_203 {L d : Nat} {xs : Nat → Int32} (I : Nat → Nat → Int32) (J : Nat → Nat → Int64) (tg : Option Nat) (a1 : Int32) (a2 : Int32) {r : Option Value × SS} (h : (Runs (GW L xs) (d + 1) 203 (2, [.ref 93, .int a1, .int a2, .int 0], [], (zS I J tg)) r)) : Runs (GW L xs) (d + 1) 203 (0, [.ref 93, .int a1, .int a2, vU], [], (zS I J tg)) r := by
  refine Runs.sN 2 (c' := (2, [.ref 93, .int a1, .int a2, .int 0], [], (zS I J tg))) rfl ?_
  exact h
theorem sg_203_2 {L d : Nat} {xs : Nat → Int32} (I : Nat → Nat → Int32) (J : Nat → Nat → Int64) (tg : Option Nat) (x1 : Int32) (x2 : Int32) (x3 : Int32) {r : Option Value × SS} (h : ((if (I 94 2) ≤ x3 then (r = (none, (zS I J tg))) else (∃ (v1 : Int32) (I2 : Nat → Nat → Int32) (J3 : Nat → Nat → Int64) (tg4 : Option Nat), Runs (GW L xs) d 197 (0, [.ref 93, .int x1, .int (12 + x3), vU, vU, vU, vU, vU, vU, vU], [], (zS I J tg)) ((some (.int v1)), (zS I2 J3 tg4)) ∧ ¬ (((700 + (12 * x2)) + x3) < 0 ∨ 1200 ≤ ((700 + (12 * x2)) + x3).toNatClampNeg) ∧ ¬ (x3 < 0 ∨ 12 ≤ (x3).toNatClampNeg) ∧ Runs (GW L xs) (d + 1) 203 (2, [.ref 93, .int x1, .int x2, .int (x3 + 1)], [], (zS (up2 I2 99 ((x3).toNatClampNeg) (v1 - (I2 94 (((700 + (12 * x2)) + x3).toNatClampNeg)))) J3 tg4)) r)))) : Runs (GW L xs) (d + 1) 203 (2, [.ref 93, .int x1, .int x2, .int x3], [], (zS I J tg)) r := by
  refine Runs.sN 5 (c' := (9, [.ref 93, .int x1, .int x2, .int x3], [.int (I 94 2), .int x3], (zS I J tg))) rfl ?_
  by_cases c5 : (I 94 2) ≤ x3
  · rw [if_pos c5] at h
    refine Runs.brT (P := (I 94 2) ≤ x3) (a := 49) (b := 12) (L := [.ref 93, .int x1, .int x2, .int x3]) (S := []) (z := (zS I J tg)) rfl c5 ?_
    subst h
    exact Runs.rt rfl
  · rw [if_neg c5] at h
    refine Runs.brF (P := (I 94 2) ≤ x3) (a := 49) (b := 12) (L := [.ref 93, .int x1, .int x2, .int x3]) (S := []) (z := (zS I J tg)) rfl c5 ?_
    refine Runs.sN 8 (c' := (23, [.ref 93, .int x1, .int x2, .int x3], [.int (12 + x3), .int x1, .ref 93, .int x3, .ref 99], (zS I J tg))) rfl ?_
    obtain ⟨v1, I2, J3, tg4, c6, h⟩ := h
    refine Runs.cl (cm := 197) (as := [.ref 93, .int x1, .int (12 + x3)]) (rest := [.int x3, .ref 99]) (r1 := ((some (.int v1)), (zS I2 J3 tg4))) rfl (Nat.le_of_ble_eq_true rfl) c6 ?_
    refine Runs.as (c' := (26, [.ref 93, .int x1, .int x2, .int x3], [.int v1, .int x3, .ref 99], (zS I2 J3 tg4))) rfl ?_
    refine Runs.sN 9 (c' := (40, [.ref 93, .int x1, .int x2, .int x3], [.int ((700 + (12 * x2)) + x3), .ref 94, .int v1, .int x3, .ref 99], (zS I2 J3 tg4))) rfl ?_
    obtain ⟨c7, h⟩ := h
    refine Runs.to (c' := (41, [.ref 93, .int x1, .int x2, .int x3], [.int (I2 94 (((700 + (12 * x2)) + x3).toNatClampNeg)), .int v1, .int x3, .ref 99], (zS I2 J3 tg4))) (Runs.ild rfl (show (94 : Nat) < 114 by decide) rfl c7) ?_
    refine Runs.sN 1 (c' := (42, [.ref 93, .int x1, .int x2, .int x3], [.int (v1 - (I2 94 (((700 + (12 * x2)) + x3).toNatClampNeg))), .int x3, .ref 99], (zS I2 J3 tg4))) rfl ?_
    obtain ⟨c8, h⟩ := h
    refine Runs.to (c' := (43, [.ref 93, .int x1, .int x2, .int x3], [], (zS (up2 I2 99 ((x3).toNatClampNeg) (v1 - (I2 94 (((700 + (12 * x2)) + x3).toNatClampNeg)))) J3 tg4))) (Runs.ist rfl (show (99 : Nat) < 114 by decide) rfl c8) ?_
    refine Runs.sN 2 (c' := (2, [.ref 93, .int x1, .int x2, .int (x3 + 1)], [], (zS (up2 I2 99 ((x3).toNatClampNeg) (v1 - (I2 94 (((700 + (12 * x2)) + x3).toNatClampNeg)))) J3 tg4))) rfl ?_
    exact h
