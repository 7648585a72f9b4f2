-- X12_look 
theorem sg_186 {L d : Nat} {xs : Nat → Int32} (I : Nat → Nat → Int32) (J : Nat → Nat → Int64) (tg : Option Nat) (a1 : Int32) {r : Option Value × SS} (h : ((if a1 = 0 then ((if (I 94 1) = 12 then (r = (some (.int (-1)), (zS I J tg))) else ((if a1 = 0 then (Runs (GW L xs) d 186 (55, [.ref 93, .int a1, .int (I 94 1), .int (20 + (22 * (I 94 1))), .int 0], [], (zS I J tg)) r) else (Runs (GW L xs) d 186 (55, [.ref 93, .int a1, .int (12 + (I 94 2)), .int (20 + (22 * (12 + (I 94 2)))), .int 0], [], (zS I J tg)) r))))) else ((if (I 94 2) = 12 then (r = (some (.int (-1)), (zS I J tg))) else ((if a1 = 0 then (Runs (GW L xs) d 186 (55, [.ref 93, .int a1, .int (I 94 1), .int (20 + (22 * (I 94 1))), .int 0], [], (zS I J tg)) r) else (Runs (GW L xs) d 186 (55, [.ref 93, .int a1, .int (12 + (I 94 2)), .int (20 + (22 * (12 + (I 94 2)))), .int 0], [], (zS I J tg)) r)))))))) : Runs (GW L xs) d 186 (0, [.ref 93, .int a1, vU, vU, vU], [], (zS I J tg)) r := by
  refine Runs.sN 3 (c' := (5, [.ref 93, .int a1, vU, vU, vU], [.int a1, .ref 94], (zS I J tg))) rfl ?_
  by_cases c1 : a1 = 0
  · rw [if_pos c1] at h
    refine Runs.brT (P := a1 = 0) (a := 12) (b := 8) (L := [.ref 93, .int a1, vU, vU, vU]) (S := [.ref 94]) (z := (zS I J tg)) rfl c1 ?_
    refine Runs.sN 3 (c' := (16, [.ref 93, .int a1, vU, vU, vU], [.int 12, .int (I 94 1)], (zS I J tg))) rfl ?_
    by_cases c2 : (I 94 1) = 12
    · rw [if_pos c2] at h
      refine Runs.brT (P := (I 94 1) = 12) (a := 19) (b := 21) (L := [.ref 93, .int a1, vU, vU, vU]) (S := []) (z := (zS I J tg)) rfl c2 ?_
      refine Runs.sN 1 (c' := (20, [.ref 93, .int a1, vU, vU, vU], [.int (-1)], (zS I J tg))) rfl ?_
      subst h
      exact Runs.rt rfl
    · rw [if_neg c2] at h
      refine Runs.brF (P := (I 94 1) = 12) (a := 19) (b := 21) (L := [.ref 93, .int a1, vU, vU, vU]) (S := []) (z := (zS I J tg)) rfl c2 ?_
      refine Runs.sN 1 (c' := (22, [.ref 93, .int a1, vU, vU, vU], [.int a1], (zS I J tg))) rfl ?_
      by_cases c3 : a1 = 0
      · rw [if_pos c3] at h
        refine Runs.brT (P := a1 = 0) (a := 37) (b := 25) (L := [.ref 93, .int a1, vU, vU, vU]) (S := []) (z := (zS I J tg)) rfl c3 ?_
        refine Runs.sN 13 (c' := (55, [.ref 93, .int a1, .int (I 94 1), .int (20 + (22 * (I 94 1))), .int 0], [], (zS I J tg))) rfl ?_
        exact h
      · rw [if_neg c3] at h
        refine Runs.brF (P := a1 = 0) (a := 37) (b := 25) (L := [.ref 93, .int a1, vU, vU, vU]) (S := []) (z := (zS I J tg)) rfl c3 ?_
        refine Runs.sN 16 (c' := (55, [.ref 93, .int a1, .int (12 + (I 94 2)), .int (20 + (22 * (12 + (I 94 2)))), .int 0], [], (zS I J tg))) rfl ?_
        exact h
  · rw [if_neg c1] at h
    refine Runs.brF (P := a1 = 0) (a := 12) (b := 8) (L := [.ref 93, .int a1, vU, vU, vU]) (S := [.ref 94]) (z := (zS I J tg)) rfl c1 ?_
    refine Runs.sN 4 (c' := (16, [.ref 93, .int a1, vU, vU, vU], [.int 12, .int (I 94 2)], (zS I J tg))) rfl ?_
    by_cases c4 : (I 94 2) = 12
    · rw [if_pos c4] at h
      refine Runs.brT (P := (I 94 2) = 12) (a := 19) (b := 21) (L := [.ref 93, .int a1, vU, vU, vU]) (S := []) (z := (zS I J tg)) rfl c4 ?_
      refine Runs.sN 1 (c' := (20, [.ref 93, .int a1, vU, vU, vU], [.int (-1)], (zS I J tg))) rfl ?_
      subst h
      exact Runs.rt rfl
    · rw [if_neg c4] at h
      refine Runs.brF (P := (I 94 2) = 12) (a := 19) (b := 21) (L := [.ref 93, .int a1, vU, vU, vU]) (S := []) (z := (zS I J tg)) rfl c4 ?_
      refine Runs.sN 1 (c' := (22, [.ref 93, .int a1, vU, vU, vU], [.int a1], (zS I J tg))) rfl ?_
      by_cases c5 : a1 = 0
      · rw [if_pos c5] at h
        refine Runs.brT (P := a1 = 0) (a := 37) (b := 25) (L := [.ref 93, .int a1, vU, vU, vU]) (S := []) (z := (zS I J tg)) rfl c5 ?_
        refine Runs.sN 13 (c' := (55, [.ref 93, .int a1, .int (I 94 1), .int (20 + (22 * (I 94 1))), .int 0], [], (zS I J tg))) rfl ?_
        exact h
      · rw [if_neg c5] at h
        refine Runs.brF (P := a1 = 0) (a := 37) (b := 25) (L := [.ref 93, .int a1, vU, vU, vU]) (S := []) (z := (zS I J tg)) rfl c5 ?_
        refine Runs.sN 16 (c' := (55, [.ref 93, .int a1, .int (12 + (I 94 2)), .int (20 + (22 * (12 + (I 94 2)))), .int 0], [], (zS I J tg))) rfl ?_
        exact h
theorem sg_186_55 {L d : Nat} {xs : Nat → Int32} (I : Nat → Nat → Int32) (J : Nat → Nat → Int64) (tg : Option Nat) (x1 : Int32) (x2 : Int32) (x3 : Int32) (x4 : Int32) {r : Option Value × SS} (h : ((if 22 ≤ x4 then (¬ ((x3 + 2) < 0 ∨ 1200 ≤ (x3 + 2).toNatClampNeg) ∧ Runs (GW L xs) d 186 (90, [.ref 93, .int x1, .int x2, .int x3, .int 0], [], (zS (up2 I 94 ((x3 + 2).toNatClampNeg) (-1)) J tg)) r) else (¬ ((x3 + x4) < 0 ∨ 1200 ≤ (x3 + x4).toNatClampNeg) ∧ Runs (GW L xs) d 186 (55, [.ref 93, .int x1, .int x2, .int x3, .int (x4 + 1)], [], (zS (up2 I 94 ((x3 + x4).toNatClampNeg) 0) J tg)) r)))) : Runs (GW L xs) d 186 (55, [.ref 93, .int x1, .int x2, .int x3, .int x4], [], (zS I J tg)) r := by
  refine Runs.sN 2 (c' := (59, [.ref 93, .int x1, .int x2, .int x3, .int x4], [.int 22, .int x4], (zS I J tg))) rfl ?_
  by_cases c1 : 22 ≤ x4
  · rw [if_pos c1] at h
    refine Runs.brT (P := 22 ≤ x4) (a := 78) (b := 62) (L := [.ref 93, .int x1, .int x2, .int x3, .int x4]) (S := []) (z := (zS I J tg)) rfl c1 ?_
    refine Runs.sN 6 (c' := (86, [.ref 93, .int x1, .int x2, .int x3, .int x4], [.int (-1), .int (x3 + 2), .ref 94], (zS I J tg))) rfl ?_
    obtain ⟨c2, h⟩ := h
    refine Runs.to (c' := (87, [.ref 93, .int x1, .int x2, .int x3, .int x4], [], (zS (up2 I 94 ((x3 + 2).toNatClampNeg) (-1)) J tg))) (Runs.ist rfl (show (94 : Nat) < 114 by decide) rfl c2) ?_
    refine Runs.sN 2 (c' := (90, [.ref 93, .int x1, .int x2, .int x3, .int 0], [], (zS (up2 I 94 ((x3 + 2).toNatClampNeg) (-1)) J tg))) rfl ?_
    exact h
  · rw [if_neg c1] at h
    refine Runs.brF (P := 22 ≤ x4) (a := 78) (b := 62) (L := [.ref 93, .int x1, .int x2, .int x3, .int x4]) (S := []) (z := (zS I J tg)) rfl c1 ?_
    refine Runs.sN 6 (c' := (71, [.ref 93, .int x1, .int x2, .int x3, .int x4], [.int 0, .int (x3 + x4), .ref 94], (zS I J tg))) rfl ?_
    obtain ⟨c3, h⟩ := h
    refine Runs.to (c' := (72, [.ref 93, .int x1, .int x2, .int x3, .int x4], [], (zS (up2 I 94 ((x3 + x4).toNatClampNeg) 0) J tg))) (Runs.ist rfl (show (94 : Nat) < 114 by decide) rfl c3) ?_
    refine Runs.sN 2 (c' := (55, [.ref 93, .int x1, .int x2, .int x3, .int (x4 + 1)], [], (zS (up2 I 94 ((x3 + x4).toNatClampNeg) 0) J tg))) rfl ?_
    exact h
theorem sg_186_90 {L d : Nat} {xs : Nat → Int32} (I : Nat → Nat → Int32) (J : Nat → Nat → Int64) (tg : Option Nat) (x1 : Int32) (x2 : Int32) (x3 : Int32) (x4 : Int32) {r : Option Value × SS} (h : ((if 6 ≤ x4 then ((if x1 = 0 then (r = (some (.int x2), (zS (up2 I 94 1 ((I 94 1) + 1)) J tg))) else (r = (some (.int x2), (zS (up2 I 94 2 ((I 94 2) + 1)) J tg))))) else ((if x1 = 0 then (¬ (((600 + (6 * x2)) + x4) < 0 ∨ 1200 ≤ ((600 + (6 * x2)) + x4).toNatClampNeg) ∧ Runs (GW L xs) d 186 (90, [.ref 93, .int x1, .int x2, .int x3, .int (x4 + 1)], [], (zS (up2 I 94 (((600 + (6 * x2)) + x4).toNatClampNeg) 0) J tg)) r) else ((if x1 = 0 then (r = (some (.int x2), (zS (up2 I 94 1 ((I 94 1) + 1)) J tg))) else (r = (some (.int x2), (zS (up2 I 94 2 ((I 94 2) + 1)) J tg)))))))))) : Runs (GW L xs) d 186 (90, [.ref 93, .int x1, .int x2, .int x3, .int x4], [], (zS I J tg)) r := by
  refine Runs.sN 2 (c' := (94, [.ref 93, .int x1, .int x2, .int x3, .int x4], [.int 6, .int x4], (zS I J tg))) rfl ?_
  by_cases c1 : 6 ≤ x4
  · rw [if_pos c1] at h
    refine Runs.brT (P := 6 ≤ x4) (a := 124) (b := 97) (L := [.ref 93, .int x1, .int x2, .int x3, .int x4]) (S := []) (z := (zS I J tg)) rfl c1 ?_
    refine Runs.sN 3 (c' := (129, [.ref 93, .int x1, .int x2, .int x3, .int x4], [.int x1, .ref 94], (zS I J tg))) rfl ?_
    by_cases c2 : x1 = 0
    · rw [if_pos c2] at h
      refine Runs.brT (P := x1 = 0) (a := 136) (b := 132) (L := [.ref 93, .int x1, .int x2, .int x3, .int x4]) (S := [.ref 94]) (z := (zS I J tg)) rfl c2 ?_
      refine Runs.sN 7 (c' := (143, [.ref 93, .int x1, .int x2, .int x3, .int x4], [.int x2], (zS (up2 I 94 1 ((I 94 1) + 1)) J tg))) rfl ?_
      subst h
      exact Runs.rt rfl
    · rw [if_neg c2] at h
      refine Runs.brF (P := x1 = 0) (a := 136) (b := 132) (L := [.ref 93, .int x1, .int x2, .int x3, .int x4]) (S := [.ref 94]) (z := (zS I J tg)) rfl c2 ?_
      refine Runs.sN 8 (c' := (143, [.ref 93, .int x1, .int x2, .int x3, .int x4], [.int x2], (zS (up2 I 94 2 ((I 94 2) + 1)) J tg))) rfl ?_
      subst h
      exact Runs.rt rfl
  · rw [if_neg c1] at h
    refine Runs.brF (P := 6 ≤ x4) (a := 124) (b := 97) (L := [.ref 93, .int x1, .int x2, .int x3, .int x4]) (S := []) (z := (zS I J tg)) rfl c1 ?_
    refine Runs.sN 1 (c' := (98, [.ref 93, .int x1, .int x2, .int x3, .int x4], [.int x1], (zS I J tg))) rfl ?_
    by_cases c3 : x1 = 0
    · rw [if_pos c3] at h
      refine Runs.brT (P := x1 = 0) (a := 101) (b := 124) (L := [.ref 93, .int x1, .int x2, .int x3, .int x4]) (S := []) (z := (zS I J tg)) rfl c3 ?_
      refine Runs.sN 10 (c' := (117, [.ref 93, .int x1, .int x2, .int x3, .int x4], [.int 0, .int ((600 + (6 * x2)) + x4), .ref 94], (zS I J tg))) rfl ?_
      obtain ⟨c4, h⟩ := h
      refine Runs.to (c' := (118, [.ref 93, .int x1, .int x2, .int x3, .int x4], [], (zS (up2 I 94 (((600 + (6 * x2)) + x4).toNatClampNeg) 0) J tg))) (Runs.ist rfl (show (94 : Nat) < 114 by decide) rfl c4) ?_
      refine Runs.sN 2 (c' := (90, [.ref 93, .int x1, .int x2, .int x3, .int (x4 + 1)], [], (zS (up2 I 94 (((600 + (6 * x2)) + x4).toNatClampNeg) 0) J tg))) rfl ?_
      exact h
    · rw [if_neg c3] at h
      refine Runs.brF (P := x1 = 0) (a := 101) (b := 124) (L := [.ref 93, .int x1, .int x2, .int x3, .int x4]) (S := []) (z := (zS I J tg)) rfl c3 ?_
      refine Runs.sN 3 (c' := (129, [.ref 93, .int x1, .int x2, .int x3, .int x4], [.int x1, .ref 94], (zS I J tg))) rfl ?_
      by_cases c5 : x1 = 0
      · rw [if_pos c5] at h
        refine Runs.brT (P := x1 = 0) (a := 136) (b := 132) (L := [.ref 93, .int x1, .int x2, .int x3, .int x4]) (S := [.ref 94]) (z := (zS I J tg)) rfl c5 ?_
        refine Runs.sN 7 (c' := (143, [.ref 93, .int x1, .int x2, .int x3, .int x4], [.int x2], (zS (up2 I 94 1 ((I 94 1) + 1)) J tg))) rfl ?_
        subst h
        exact Runs.rt rfl
      · rw [if_neg c5] at h
        refine Runs.brF (P := x1 = 0) (a := 136) (b := 132) (L := [.ref 93, .int x1, .int x2, .int x3, .int x4]) (S := [.ref 94]) (z := (zS I J tg)) rfl c5 ?_
        refine Runs.sN 8 (c' := (143, [.ref 93, .int x1, .int x2, .int x3, .int x4], [.int x2], (zS (up2 I 94 2 ((I 94 2) + 1)) J tg))) rfl ?_
        subst h
        exact Runs.rt rfl
-- X12_partOf 
theorem sg_187 {L d : Nat} {xs : Nat → Int32} (I : Nat → Nat → Int32) (J : Nat → Nat → Int64) (tg : Option Nat) (a1 : Int32) (a2 : Int32) (a3 : Int32) {r : Option Value × SS} (h : (r = (some (.int (((36 * a1) + (4 * a2)) + a3)), (zS I J tg)))) : Runs (GW L xs) d 187 (0, [.int a1, .int a2, .int a3], [], (zS I J tg)) r := by
  refine Runs.sN 9 (c' := (10, [.int a1, .int a2, .int a3], [.int (((36 * a1) + (4 * a2)) + a3)], (zS I J tg))) rfl ?_
  subst h
  exact Runs.rt rfl
-- X12_hasPart 
theorem sg_188 {L d : Nat} {xs : Nat → Int32} (I : Nat → Nat → Int32) (J : Nat → Nat → Int64) (tg : Option Nat) (a1 : Int32) (a2 : Int32) {r : Option Value × SS} (h : (Runs (GW L xs) (d + 1) 188 (2, [.ref 93, .int a1, .int a2, .int 0], [], (zS I J tg)) r)) : Runs (GW L xs) (d + 1) 188 (0, [.ref 93, .int a1, .int a2, vU], [], (zS I J tg)) r := by
  refine Runs.sN 2 (c' := (2, [.ref 93, .int a1, .int a2, .int 0], [], (zS I J tg))) rfl ?_
  exact h
theorem sg_188_2 {L d : Nat} {xs : Nat → Int32} (I : Nat → Nat → Int32) (J : Nat → Nat → Int64) (tg : Option Nat) (x1 : Int32) (x2 : Int32) (x3 : Int32) {r : Option Value × SS} (h : (∃ (v1 : Int32) (I2 : Nat → Nat → Int32) (J3 : Nat → Nat → Int64), Runs (GW L xs) d 184 (0, [.ref 93, .int x1, .int 0], [], (zS I J tg)) ((some (.int v1)), (zS I2 J3 tg)) ∧ (if v1 ≤ x3 then (r = (some (.int 0), (zS I2 J3 tg))) else (∃ (v4 : Int32) (I5 : Nat → Nat → Int32) (J6 : Nat → Nat → Int64), Runs (GW L xs) d 184 (0, [.ref 93, .int x1, .int (4 + x3)], [], (zS I2 J3 tg)) ((some (.int v4)), (zS I5 J6 tg)) ∧ (if v4 = x2 then (r = (some (.int 1), (zS I5 J6 tg))) else (Runs (GW L xs) (d + 1) 188 (2, [.ref 93, .int x1, .int x2, .int (x3 + 1)], [], (zS I5 J6 tg)) r)))))) : Runs (GW L xs) (d + 1) 188 (2, [.ref 93, .int x1, .int x2, .int x3], [], (zS I J tg)) r := by
  refine Runs.sN 4 (c' := (6, [.ref 93, .int x1, .int x2, .int x3], [.int 0, .int x1, .ref 93, .int x3], (zS I J tg))) rfl ?_
  obtain ⟨v1, I2, J3, c7, h⟩ := h
  refine Runs.cl (cm := 184) (as := [.ref 93, .int x1, .int 0]) (rest := [.int x3]) (r1 := ((some (.int v1)), (zS I2 J3 tg))) rfl (Nat.le_of_ble_eq_true rfl) c7 ?_
  refine Runs.as (c' := (9, [.ref 93, .int x1, .int x2, .int x3], [.int v1, .int x3], (zS I2 J3 tg))) rfl ?_
  by_cases c8 : v1 ≤ x3
  · rw [if_pos c8] at h
    refine Runs.brT (P := v1 ≤ x3) (a := 32) (b := 12) (L := [.ref 93, .int x1, .int x2, .int x3]) (S := []) (z := (zS I2 J3 tg)) rfl c8 ?_
    refine Runs.sN 1 (c' := (33, [.ref 93, .int x1, .int x2, .int x3], [.int 0], (zS I2 J3 tg))) rfl ?_
    subst h
    exact Runs.rt rfl
  · rw [if_neg c8] at h
    refine Runs.brF (P := v1 ≤ x3) (a := 32) (b := 12) (L := [.ref 93, .int x1, .int x2, .int x3]) (S := []) (z := (zS I2 J3 tg)) rfl c8 ?_
    refine Runs.sN 5 (c' := (17, [.ref 93, .int x1, .int x2, .int x3], [.int (4 + x3), .int x1, .ref 93], (zS I2 J3 tg))) rfl ?_
    obtain ⟨v4, I5, J6, c9, h⟩ := h
    refine Runs.cl (cm := 184) (as := [.ref 93, .int x1, .int (4 + x3)]) (rest := []) (r1 := ((some (.int v4)), (zS I5 J6 tg))) rfl (Nat.le_of_ble_eq_true rfl) c9 ?_
    refine Runs.as (c' := (20, [.ref 93, .int x1, .int x2, .int x3], [.int v4], (zS I5 J6 tg))) rfl ?_
    refine Runs.sN 1 (c' := (21, [.ref 93, .int x1, .int x2, .int x3], [.int x2, .int v4], (zS I5 J6 tg))) rfl ?_
    by_cases c10 : v4 = x2
    · rw [if_pos c10] at h
      refine Runs.brT (P := v4 = x2) (a := 24) (b := 26) (L := [.ref 93, .int x1, .int x2, .int x3]) (S := []) (z := (zS I5 J6 tg)) rfl c10 ?_
      refine Runs.sN 1 (c' := (25, [.ref 93, .int x1, .int x2, .int x3], [.int 1], (zS I5 J6 tg))) rfl ?_
      subst h
      exact Runs.rt rfl
    · rw [if_neg c10] at h
      refine Runs.brF (P := v4 = x2) (a := 24) (b := 26) (L := [.ref 93, .int x1, .int x2, .int x3]) (S := []) (z := (zS I5 J6 tg)) rfl c10 ?_
      refine Runs.sN 2 (c' := (2, [.ref 93, .int x1, .int x2, .int (x3 + 1)], [], (zS I5 J6 tg))) rfl ?_
      exact h
-- X12_add 
theorem sg_189 {L d : Nat} {xs : Nat → Int32} (I : Nat → Nat → Int32) (J : Nat → Nat → Int64) (tg : Option Nat) (a1 : Int32) (a2 : Int32) {r : Option Value × SS} (h : (¬ ((20 + (22 * a1)) < 0 ∨ 1200 ≤ (20 + (22 * a1)).toNatClampNeg) ∧ ¬ ((((20 + (22 * a1)) + 4) + (I 94 ((20 + (22 * a1)).toNatClampNeg))) < 0 ∨ 1200 ≤ (((20 + (22 * a1)) + 4) + (I 94 ((20 + (22 * a1)).toNatClampNeg))).toNatClampNeg) ∧ ¬ ((20 + (22 * a1)) < 0 ∨ 1200 ≤ (20 + (22 * a1)).toNatClampNeg) ∧ ¬ ((20 + (22 * a1)) < 0 ∨ 1200 ≤ (20 + (22 * a1)).toNatClampNeg) ∧ r = (none, (zS (up2 (up2 I 94 ((((20 + (22 * a1)) + 4) + (I 94 ((20 + (22 * a1)).toNatClampNeg))).toNatClampNeg) a2) 94 ((20 + (22 * a1)).toNatClampNeg) (((up2 I 94 ((((20 + (22 * a1)) + 4) + (I 94 ((20 + (22 * a1)).toNatClampNeg))).toNatClampNeg) a2) 94 ((20 + (22 * a1)).toNatClampNeg)) + 1)) J tg)))) : Runs (GW L xs) d 189 (0, [.ref 93, .int a1, .int a2, vU], [], (zS I J tg)) r := by
  refine Runs.sN 14 (c' := (20, [.ref 93, .int a1, .int a2, .int (20 + (22 * a1))], [.int (20 + (22 * a1)), .ref 94, .int ((20 + (22 * a1)) + 4), .ref 94], (zS I J tg))) rfl ?_
  obtain ⟨c1, h⟩ := h
  refine Runs.to (c' := (21, [.ref 93, .int a1, .int a2, .int (20 + (22 * a1))], [.int (I 94 ((20 + (22 * a1)).toNatClampNeg)), .int ((20 + (22 * a1)) + 4), .ref 94], (zS I J tg))) (Runs.ild rfl (show (94 : Nat) < 114 by decide) rfl c1) ?_
  refine Runs.sN 2 (c' := (23, [.ref 93, .int a1, .int a2, .int (20 + (22 * a1))], [.int a2, .int (((20 + (22 * a1)) + 4) + (I 94 ((20 + (22 * a1)).toNatClampNeg))), .ref 94], (zS I J tg))) rfl ?_
  obtain ⟨c2, h⟩ := h
  refine Runs.to (c' := (24, [.ref 93, .int a1, .int a2, .int (20 + (22 * a1))], [], (zS (up2 I 94 ((((20 + (22 * a1)) + 4) + (I 94 ((20 + (22 * a1)).toNatClampNeg))).toNatClampNeg) a2) J tg))) (Runs.ist rfl (show (94 : Nat) < 114 by decide) rfl c2) ?_
  refine Runs.sN 4 (c' := (30, [.ref 93, .int a1, .int a2, .int (20 + (22 * a1))], [.int (20 + (22 * a1)), .ref 94, .int (20 + (22 * a1)), .ref 94], (zS (up2 I 94 ((((20 + (22 * a1)) + 4) + (I 94 ((20 + (22 * a1)).toNatClampNeg))).toNatClampNeg) a2) J tg))) rfl ?_
  obtain ⟨c3, h⟩ := h
  refine Runs.to (c' := (31, [.ref 93, .int a1, .int a2, .int (20 + (22 * a1))], [.int ((up2 I 94 ((((20 + (22 * a1)) + 4) + (I 94 ((20 + (22 * a1)).toNatClampNeg))).toNatClampNeg) a2) 94 ((20 + (22 * a1)).toNatClampNeg)), .int (20 + (22 * a1)), .ref 94], (zS (up2 I 94 ((((20 + (22 * a1)) + 4) + (I 94 ((20 + (22 * a1)).toNatClampNeg))).toNatClampNeg) a2) J tg))) (Runs.ild rfl (show (94 : Nat) < 114 by decide) rfl c3) ?_
  refine Runs.sN 2 (c' := (33, [.ref 93, .int a1, .int a2, .int (20 + (22 * a1))], [.int (((up2 I 94 ((((20 + (22 * a1)) + 4) + (I 94 ((20 + (22 * a1)).toNatClampNeg))).toNatClampNeg) a2) 94 ((20 + (22 * a1)).toNatClampNeg)) + 1), .int (20 + (22 * a1)), .ref 94], (zS (up2 I 94 ((((20 + (22 * a1)) + 4) + (I 94 ((20 + (22 * a1)).toNatClampNeg))).toNatClampNeg) a2) J tg))) rfl ?_
  obtain ⟨c4, h⟩ := h
  refine Runs.to (c' := (34, [.ref 93, .int a1, .int a2, .int (20 + (22 * a1))], [], (zS (up2 (up2 I 94 ((((20 + (22 * a1)) + 4) + (I 94 ((20 + (22 * a1)).toNatClampNeg))).toNatClampNeg) a2) 94 ((20 + (22 * a1)).toNatClampNeg) (((up2 I 94 ((((20 + (22 * a1)) + 4) + (I 94 ((20 + (22 * a1)).toNatClampNeg))).toNatClampNeg) a2) 94 ((20 + (22 * a1)).toNatClampNeg)) + 1)) J tg))) (Runs.ist rfl (show (94 : Nat) < 114 by decide) rfl c4) ?_
  subst h
  exact Runs.rt rfl
-- X12_part 
theorem sg_190 {L d : Nat} {xs : Nat → Int32} (I : Nat → Nat → Int32) (J : Nat → Nat → Int64) (tg : Option Nat) (a1 : Int32) (a2 : Int32) (a3 : Int32) (a4 : Int32) {r : Option Value × SS} (h : (∃ (v24 : Int32) (I25 : Nat → Nat → Int32) (J26 : Nat → Nat → Int64), Runs (GW L xs) d 181 (0, [.ref 93, .int a1], [], (zS I J tg)) ((some (.int v24)), (zS I25 J26 tg)) ∧ (if v24 = 0 then (r = (some (.int (-1)), (zS I25 J26 tg))) else (∃ (v27 : Int32) (I28 : Nat → Nat → Int32) (J29 : Nat → Nat → Int64), Runs (GW L xs) d 183 (0, [.int a2, .int a3, .int a4], [], (zS I25 J26 tg)) ((some (.int v27)), (zS I28 J29 tg)) ∧ (if v27 = 0 then (r = (some (.int (-1)), (zS I28 J29 tg))) else (∃ (v30 : Int32) (I31 : Nat → Nat → Int32) (J32 : Nat → Nat → Int64), Runs (GW L xs) d 187 (0, [.int a2, .int a3, .int a4], [], (zS I28 J29 tg)) ((some (.int v30)), (zS I31 J32 tg)) ∧ ∃ (v33 : Int32) (I34 : Nat → Nat → Int32) (J35 : Nat → Nat → Int64), Runs (GW L xs) d 188 (0, [.ref 93, .int a1, .int v30, vU], [], (zS I31 J32 tg)) ((some (.int v33)), (zS I34 J35 tg)) ∧ (if v33 = 0 then (∃ (v36 : Int32) (I37 : Nat → Nat → Int32) (J38 : Nat → Nat → Int64), Runs (GW L xs) d 184 (0, [.ref 93, .int a1, .int 0], [], (zS I34 J35 tg)) ((some (.int v36)), (zS I37 J38 tg)) ∧ (if v36 = 6 then (r = (some (.int (-1)), (zS I37 J38 tg))) else (∃ (v39 : Int32) (I40 : Nat → Nat → Int32) (J41 : Nat → Nat → Int64), Runs (GW L xs) d 187 (0, [.int a2, .int a3, .int a4], [], (zS I37 J38 tg)) ((some (.int v39)), (zS I40 J41 tg)) ∧ ∃ (I42 : Nat → Nat → Int32) (J43 : Nat → Nat → Int64), Runs (GW L xs) d 189 (0, [.ref 93, .int a1, .int v39, vU], [], (zS I40 J41 tg)) (none, (zS I42 J43 tg)) ∧ ∃ (v44 : Int32) (I45 : Nat → Nat → Int32) (J46 : Nat → Nat → Int64), Runs (GW L xs) d 184 (0, [.ref 93, .int a1, .int 0], [], (zS I42 J43 tg)) ((some (.int v44)), (zS I45 J46 tg)) ∧ r = (some (.int v44), (zS I45 J46 tg))))) else (r = (some (.int (-1)), (zS I34 J35 tg)))))))))) : Runs (GW L xs) (d + 1) 190 (0, [.ref 93, .int a1, .int a2, .int a3, .int a4], [], (zS I J tg)) r := by
  refine Runs.sN 2 (c' := (2, [.ref 93, .int a1, .int a2, .int a3, .int a4], [.int a1, .ref 93], (zS I J tg))) rfl ?_
  obtain ⟨v24, I25, J26, c47, h⟩ := h
  refine Runs.cl (cm := 181) (as := [.ref 93, .int a1]) (rest := []) (r1 := ((some (.int v24)), (zS I25 J26 tg))) rfl (Nat.le_of_ble_eq_true rfl) c47 ?_
  refine Runs.as (c' := (5, [.ref 93, .int a1, .int a2, .int a3, .int a4], [.int v24], (zS I25 J26 tg))) rfl ?_
  by_cases c48 : v24 = 0
  · rw [if_pos c48] at h
    refine Runs.brT (P := v24 = 0) (a := 44) (b := 8) (L := [.ref 93, .int a1, .int a2, .int a3, .int a4]) (S := []) (z := (zS I25 J26 tg)) rfl c48 ?_
    refine Runs.sN 1 (c' := (45, [.ref 93, .int a1, .int a2, .int a3, .int a4], [.int (-1)], (zS I25 J26 tg))) rfl ?_
    subst h
    exact Runs.rt rfl
  · rw [if_neg c48] at h
    refine Runs.brF (P := v24 = 0) (a := 44) (b := 8) (L := [.ref 93, .int a1, .int a2, .int a3, .int a4]) (S := []) (z := (zS I25 J26 tg)) rfl c48 ?_
    refine Runs.sN 3 (c' := (12, [.ref 93, .int a1, .int a2, .int a3, .int a4], [.int a4, .int a3, .int a2], (zS I25 J26 tg))) rfl ?_
    obtain ⟨v27, I28, J29, c49, h⟩ := h
    refine Runs.cl (cm := 183) (as := [.int a2, .int a3, .int a4]) (rest := []) (r1 := ((some (.int v27)), (zS I28 J29 tg))) rfl (Nat.le_of_ble_eq_true rfl) c49 ?_
    refine Runs.as (c' := (15, [.ref 93, .int a1, .int a2, .int a3, .int a4], [.int v27], (zS I28 J29 tg))) rfl ?_
    by_cases c50 : v27 = 0
    · rw [if_pos c50] at h
      refine Runs.brT (P := v27 = 0) (a := 44) (b := 18) (L := [.ref 93, .int a1, .int a2, .int a3, .int a4]) (S := []) (z := (zS I28 J29 tg)) rfl c50 ?_
      refine Runs.sN 1 (c' := (45, [.ref 93, .int a1, .int a2, .int a3, .int a4], [.int (-1)], (zS I28 J29 tg))) rfl ?_
      subst h
      exact Runs.rt rfl
    · rw [if_neg c50] at h
      refine Runs.brF (P := v27 = 0) (a := 44) (b := 18) (L := [.ref 93, .int a1, .int a2, .int a3, .int a4]) (S := []) (z := (zS I28 J29 tg)) rfl c50 ?_
      refine Runs.sN 5 (c' := (24, [.ref 93, .int a1, .int a2, .int a3, .int a4], [.int a4, .int a3, .int a2, .int a1, .ref 93], (zS I28 J29 tg))) rfl ?_
      obtain ⟨v30, I31, J32, c51, h⟩ := h
      refine Runs.cl (cm := 187) (as := [.int a2, .int a3, .int a4]) (rest := [.int a1, .ref 93]) (r1 := ((some (.int v30)), (zS I31 J32 tg))) rfl (Nat.le_of_ble_eq_true rfl) c51 ?_
      refine Runs.as (c' := (27, [.ref 93, .int a1, .int a2, .int a3, .int a4], [.int v30, .int a1, .ref 93], (zS I31 J32 tg))) rfl ?_
      obtain ⟨v33, I34, J35, c52, h⟩ := h
      refine Runs.cl (cm := 188) (as := [.ref 93, .int a1, .int v30]) (rest := []) (r1 := ((some (.int v33)), (zS I34 J35 tg))) rfl (Nat.le_of_ble_eq_true rfl) c52 ?_
      refine Runs.as (c' := (30, [.ref 93, .int a1, .int a2, .int a3, .int a4], [.int v33], (zS I34 J35 tg))) rfl ?_
      by_cases c53 : v33 = 0
      · rw [if_pos c53] at h
        refine Runs.brT (P := v33 = 0) (a := 33) (b := 44) (L := [.ref 93, .int a1, .int a2, .int a3, .int a4]) (S := []) (z := (zS I34 J35 tg)) rfl c53 ?_
        refine Runs.sN 3 (c' := (36, [.ref 93, .int a1, .int a2, .int a3, .int a4], [.int 0, .int a1, .ref 93], (zS I34 J35 tg))) rfl ?_
        obtain ⟨v36, I37, J38, c54, h⟩ := h
        refine Runs.cl (cm := 184) (as := [.ref 93, .int a1, .int 0]) (rest := []) (r1 := ((some (.int v36)), (zS I37 J38 tg))) rfl (Nat.le_of_ble_eq_true rfl) c54 ?_
        refine Runs.as (c' := (39, [.ref 93, .int a1, .int a2, .int a3, .int a4], [.int v36], (zS I37 J38 tg))) rfl ?_
        refine Runs.sN 1 (c' := (41, [.ref 93, .int a1, .int a2, .int a3, .int a4], [.int 6, .int v36], (zS I37 J38 tg))) rfl ?_
        by_cases c55 : v36 = 6
        · rw [if_pos c55] at h
          refine Runs.brT (P := v36 = 6) (a := 44) (b := 46) (L := [.ref 93, .int a1, .int a2, .int a3, .int a4]) (S := []) (z := (zS I37 J38 tg)) rfl c55 ?_
          refine Runs.sN 1 (c' := (45, [.ref 93, .int a1, .int a2, .int a3, .int a4], [.int (-1)], (zS I37 J38 tg))) rfl ?_
          subst h
          exact Runs.rt rfl
        · rw [if_neg c55] at h
          refine Runs.brF (P := v36 = 6) (a := 44) (b := 46) (L := [.ref 93, .int a1, .int a2, .int a3, .int a4]) (S := []) (z := (zS I37 J38 tg)) rfl c55 ?_
          refine Runs.sN 5 (c' := (52, [.ref 93, .int a1, .int a2, .int a3, .int a4], [.int a4, .int a3, .int a2, .int a1, .ref 93], (zS I37 J38 tg))) rfl ?_
          obtain ⟨v39, I40, J41, c56, h⟩ := h
          refine Runs.cl (cm := 187) (as := [.int a2, .int a3, .int a4]) (rest := [.int a1, .ref 93]) (r1 := ((some (.int v39)), (zS I40 J41 tg))) rfl (Nat.le_of_ble_eq_true rfl) c56 ?_
          refine Runs.as (c' := (55, [.ref 93, .int a1, .int a2, .int a3, .int a4], [.int v39, .int a1, .ref 93], (zS I40 J41 tg))) rfl ?_
          obtain ⟨I42, J43, c57, h⟩ := h
          refine Runs.cl (cm := 189) (as := [.ref 93, .int a1, .int v39]) (rest := []) (r1 := (none, (zS I42 J43 tg))) rfl (Nat.le_of_ble_eq_true rfl) c57 ?_
          refine Runs.as (c' := (58, [.ref 93, .int a1, .int a2, .int a3, .int a4], [], (zS I42 J43 tg))) rfl ?_
          refine Runs.sN 3 (c' := (61, [.ref 93, .int a1, .int a2, .int a3, .int a4], [.int 0, .int a1, .ref 93], (zS I42 J43 tg))) rfl ?_
          obtain ⟨v44, I45, J46, c58, h⟩ := h
          refine Runs.cl (cm := 184) (as := [.ref 93, .int a1, .int 0]) (rest := []) (r1 := ((some (.int v44)), (zS I45 J46 tg))) rfl (Nat.le_of_ble_eq_true rfl) c58 ?_
          refine Runs.as (c' := (64, [.ref 93, .int a1, .int a2, .int a3, .int a4], [.int v44], (zS I45 J46 tg))) rfl ?_
          subst h
          exact Runs.rt rfl
      · rw [if_neg c53] at h
        refine Runs.brF (P := v33 = 0) (a := 33) (b := 44) (L := [.ref 93, .int a1, .int a2, .int a3, .int a4]) (S := []) (z := (zS I34 J35 tg)) rfl c53 ?_
        refine Runs.sN 1 (c' := (45, [.ref 93, .int a1, .int a2, .int a3, .int a4], [.int (-1)], (zS I34 J35 tg))) rfl ?_
        subst h
        exact Runs.rt rfl
-- X12_clear 
theorem sg_191 {L d : Nat} {xs : Nat → Int32} (I : Nat → Nat → Int32) (J : Nat → Nat → Int64) (tg : Option Nat) (a1 : Int32) {r : Option Value × SS} (h : (∃ (v7 : Int32) (I8 : Nat → Nat → Int32) (J9 : Nat → Nat → Int64), Runs (GW L xs) d 181 (0, [.ref 93, .int a1], [], (zS I J tg)) ((some (.int v7)), (zS I8 J9 tg)) ∧ (if v7 = 0 then (r = (some (.int (-1)), (zS I8 J9 tg))) else (∃ (v10 : Int32) (I11 : Nat → Nat → Int32) (J12 : Nat → Nat → Int64), Runs (GW L xs) d 184 (0, [.ref 93, .int a1, .int 0], [], (zS I8 J9 tg)) ((some (.int v10)), (zS I11 J12 tg)) ∧ ¬ ((20 + (22 * a1)) < 0 ∨ 1200 ≤ (20 + (22 * a1)).toNatClampNeg) ∧ r = (some (.int v10), (zS (up2 I11 94 ((20 + (22 * a1)).toNatClampNeg) 0) J12 tg)))))) : Runs (GW L xs) (d + 1) 191 (0, [.ref 93, .int a1, vU], [], (zS I J tg)) r := by
  refine Runs.sN 2 (c' := (2, [.ref 93, .int a1, vU], [.int a1, .ref 93], (zS I J tg))) rfl ?_
  obtain ⟨v7, I8, J9, c13, h⟩ := h
  refine Runs.cl (cm := 181) (as := [.ref 93, .int a1]) (rest := []) (r1 := ((some (.int v7)), (zS I8 J9 tg))) rfl (Nat.le_of_ble_eq_true rfl) c13 ?_
  refine Runs.as (c' := (5, [.ref 93, .int a1, vU], [.int v7], (zS I8 J9 tg))) rfl ?_
  by_cases c14 : v7 = 0
  · rw [if_pos c14] at h
    refine Runs.brT (P := v7 = 0) (a := 8) (b := 10) (L := [.ref 93, .int a1, vU]) (S := []) (z := (zS I8 J9 tg)) rfl c14 ?_
    refine Runs.sN 1 (c' := (9, [.ref 93, .int a1, vU], [.int (-1)], (zS I8 J9 tg))) rfl ?_
    subst h
    exact Runs.rt rfl
  · rw [if_neg c14] at h
    refine Runs.brF (P := v7 = 0) (a := 8) (b := 10) (L := [.ref 93, .int a1, vU]) (S := []) (z := (zS I8 J9 tg)) rfl c14 ?_
    refine Runs.sN 3 (c' := (13, [.ref 93, .int a1, vU], [.int 0, .int a1, .ref 93], (zS I8 J9 tg))) rfl ?_
    obtain ⟨v10, I11, J12, c15, h⟩ := h
    refine Runs.cl (cm := 184) (as := [.ref 93, .int a1, .int 0]) (rest := []) (r1 := ((some (.int v10)), (zS I11 J12 tg))) rfl (Nat.le_of_ble_eq_true rfl) c15 ?_
    refine Runs.as (c' := (16, [.ref 93, .int a1, vU], [.int v10], (zS I11 J12 tg))) rfl ?_
    refine Runs.sN 9 (c' := (29, [.ref 93, .int a1, .int v10], [.int 0, .int (20 + (22 * a1)), .ref 94], (zS I11 J12 tg))) rfl ?_
    obtain ⟨c16, h⟩ := h
    refine Runs.to (c' := (30, [.ref 93, .int a1, .int v10], [], (zS (up2 I11 94 ((20 + (22 * a1)).toNatClampNeg) 0) J12 tg))) (Runs.ist rfl (show (94 : Nat) < 114 by decide) rfl c16) ?_
    refine Runs.sN 1 (c' := (31, [.ref 93, .int a1, .int v10], [.int v10], (zS (up2 I11 94 ((20 + (22 * a1)).toNatClampNeg) 0) J12 tg))) rfl ?_
    subst h
    exact Runs.rt rfl
-- X12_colour 
theorem sg_192 {L d : Nat} {xs : Nat → Int32} (I : Nat → Nat → Int32) (J : Nat → Nat → Int64) (tg : Option Nat) (a1 : Int32) (a2 : Int32) {r : Option Value × SS} (h : (∃ (v7 : Int32) (I8 : Nat → Nat → Int32) (J9 : Nat → Nat → Int64), Runs (GW L xs) d 181 (0, [.ref 93, .int a1], [], (zS I J tg)) ((some (.int v7)), (zS I8 J9 tg)) ∧ (if v7 = 0 then (r = (some (.int 0), (zS I8 J9 tg))) else (∃ (v10 : Int32) (I11 : Nat → Nat → Int32) (J12 : Nat → Nat → Int64), Runs (GW L xs) d 177 (0, [.int a2, .int 0, .int 3], [], (zS I8 J9 tg)) ((some (.int v10)), (zS I11 J12 tg)) ∧ (if v10 = 0 then (r = (some (.int 0), (zS I11 J12 tg))) else (¬ (((20 + (22 * a1)) + 1) < 0 ∨ 1200 ≤ ((20 + (22 * a1)) + 1).toNatClampNeg) ∧ r = (some (.int 1), (zS (up2 I11 94 (((20 + (22 * a1)) + 1).toNatClampNeg) a2) J12 tg)))))))) : Runs (GW L xs) (d + 1) 192 (0, [.ref 93, .int a1, .int a2], [], (zS I J tg)) r := by
  refine Runs.sN 2 (c' := (2, [.ref 93, .int a1, .int a2], [.int a1, .ref 93], (zS I J tg))) rfl ?_
  obtain ⟨v7, I8, J9, c13, h⟩ := h
  refine Runs.cl (cm := 181) (as := [.ref 93, .int a1]) (rest := []) (r1 := ((some (.int v7)), (zS I8 J9 tg))) rfl (Nat.le_of_ble_eq_true rfl) c13 ?_
  refine Runs.as (c' := (5, [.ref 93, .int a1, .int a2], [.int v7], (zS I8 J9 tg))) rfl ?_
  by_cases c14 : v7 = 0
  · rw [if_pos c14] at h
    refine Runs.brT (P := v7 = 0) (a := 17) (b := 8) (L := [.ref 93, .int a1, .int a2]) (S := []) (z := (zS I8 J9 tg)) rfl c14 ?_
    refine Runs.sN 1 (c' := (18, [.ref 93, .int a1, .int a2], [.int 0], (zS I8 J9 tg))) rfl ?_
    subst h
    exact Runs.rt rfl
  · rw [if_neg c14] at h
    refine Runs.brF (P := v7 = 0) (a := 17) (b := 8) (L := [.ref 93, .int a1, .int a2]) (S := []) (z := (zS I8 J9 tg)) rfl c14 ?_
    refine Runs.sN 3 (c' := (11, [.ref 93, .int a1, .int a2], [.int 3, .int 0, .int a2], (zS I8 J9 tg))) rfl ?_
    obtain ⟨v10, I11, J12, c15, h⟩ := h
    refine Runs.cl (cm := 177) (as := [.int a2, .int 0, .int 3]) (rest := []) (r1 := ((some (.int v10)), (zS I11 J12 tg))) rfl (Nat.le_of_ble_eq_true rfl) c15 ?_
    refine Runs.as (c' := (14, [.ref 93, .int a1, .int a2], [.int v10], (zS I11 J12 tg))) rfl ?_
    by_cases c16 : v10 = 0
    · rw [if_pos c16] at h
      refine Runs.brT (P := v10 = 0) (a := 17) (b := 19) (L := [.ref 93, .int a1, .int a2]) (S := []) (z := (zS I11 J12 tg)) rfl c16 ?_
      refine Runs.sN 1 (c' := (18, [.ref 93, .int a1, .int a2], [.int 0], (zS I11 J12 tg))) rfl ?_
      subst h
      exact Runs.rt rfl
    · rw [if_neg c16] at h
      refine Runs.brF (P := v10 = 0) (a := 17) (b := 19) (L := [.ref 93, .int a1, .int a2]) (S := []) (z := (zS I11 J12 tg)) rfl c16 ?_
      refine Runs.sN 10 (c' := (33, [.ref 93, .int a1, .int a2], [.int a2, .int ((20 + (22 * a1)) + 1), .ref 94], (zS I11 J12 tg))) rfl ?_
      obtain ⟨c17, h⟩ := h
      refine Runs.to (c' := (34, [.ref 93, .int a1, .int a2], [], (zS (up2 I11 94 (((20 + (22 * a1)) + 1).toNatClampNeg) a2) J12 tg))) (Runs.ist rfl (show (94 : Nat) < 114 by decide) rfl c17) ?_
      refine Runs.sN 1 (c' := (35, [.ref 93, .int a1, .int a2], [.int 1], (zS (up2 I11 94 (((20 + (22 * a1)) + 1).toNatClampNeg) a2) J12 tg))) rfl ?_
      subst h
      exact Runs.rt rfl
-- X12_means 
theorem sg_193 {L d : Nat} {xs : Nat → Int32} (I : Nat → Nat → Int32) (J : Nat → Nat → Int64) (tg : Option Nat) (a1 : Int32) (a2 : Int32) (a3 : Int32) {r : Option Value × SS} (h : (∃ (v7 : Int32) (I8 : Nat → Nat → Int32) (J9 : Nat → Nat → Int64), Runs (GW L xs) d 179 (0, [.ref 93, .int a1], [], (zS I J tg)) ((some (.int v7)), (zS I8 J9 tg)) ∧ (if v7 = 0 then (r = (some (.int 0), (zS I8 J9 tg))) else ((if a2 = (-1) then (¬ (((20 + (22 * a1)) + 2) < 0 ∨ 1200 ≤ ((20 + (22 * a1)) + 2).toNatClampNeg) ∧ (if a3 = 0 then (¬ (((20 + (22 * a1)) + 3) < 0 ∨ 1200 ≤ ((20 + (22 * a1)) + 3).toNatClampNeg) ∧ r = (some (.int 1), (zS (up2 (up2 I8 94 (((20 + (22 * a1)) + 2).toNatClampNeg) a2) 94 (((20 + (22 * a1)) + 3).toNatClampNeg) 0) J9 tg))) else ((if a2 = (-1) then (¬ (((20 + (22 * a1)) + 3) < 0 ∨ 1200 ≤ ((20 + (22 * a1)) + 3).toNatClampNeg) ∧ r = (some (.int 1), (zS (up2 (up2 I8 94 (((20 + (22 * a1)) + 2).toNatClampNeg) a2) 94 (((20 + (22 * a1)) + 3).toNatClampNeg) 0) J9 tg))) else (¬ (((20 + (22 * a1)) + 3) < 0 ∨ 1200 ≤ ((20 + (22 * a1)) + 3).toNatClampNeg) ∧ r = (some (.int 1), (zS (up2 (up2 I8 94 (((20 + (22 * a1)) + 2).toNatClampNeg) a2) 94 (((20 + (22 * a1)) + 3).toNatClampNeg) 1) J9 tg))))))) else (∃ (v10 : Int32) (I11 : Nat → Nat → Int32) (J12 : Nat → Nat → Int64), Runs (GW L xs) d 180 (0, [.ref 93, .int a2], [], (zS I8 J9 tg)) ((some (.int v10)), (zS I11 J12 tg)) ∧ (if v10 = 0 then (r = (some (.int 0), (zS I11 J12 tg))) else (¬ (((20 + (22 * a1)) + 2) < 0 ∨ 1200 ≤ ((20 + (22 * a1)) + 2).toNatClampNeg) ∧ (if a3 = 0 then (¬ (((20 + (22 * a1)) + 3) < 0 ∨ 1200 ≤ ((20 + (22 * a1)) + 3).toNatClampNeg) ∧ r = (some (.int 1), (zS (up2 (up2 I11 94 (((20 + (22 * a1)) + 2).toNatClampNeg) a2) 94 (((20 + (22 * a1)) + 3).toNatClampNeg) 0) J12 tg))) else ((if a2 = (-1) then (¬ (((20 + (22 * a1)) + 3) < 0 ∨ 1200 ≤ ((20 + (22 * a1)) + 3).toNatClampNeg) ∧ r = (some (.int 1), (zS (up2 (up2 I11 94 (((20 + (22 * a1)) + 2).toNatClampNeg) a2) 94 (((20 + (22 * a1)) + 3).toNatClampNeg) 0) J12 tg))) else (¬ (((20 + (22 * a1)) + 3) < 0 ∨ 1200 ≤ ((20 + (22 * a1)) + 3).toNatClampNeg) ∧ r = (some (.int 1), (zS (up2 (up2 I11 94 (((20 + (22 * a1)) + 2).toNatClampNeg) a2) 94 (((20 + (22 * a1)) + 3).toNatClampNeg) 1) J12 tg)))))))))))))) : Runs (GW L xs) (d + 1) 193 (0, [.ref 93, .int a1, .int a2, .int a3], [], (zS I J tg)) r := by
  refine Runs.sN 2 (c' := (2, [.ref 93, .int a1, .int a2, .int a3], [.int a1, .ref 93], (zS I J tg))) rfl ?_
  obtain ⟨v7, I8, J9, c13, h⟩ := h
  refine Runs.cl (cm := 179) (as := [.ref 93, .int a1]) (rest := []) (r1 := ((some (.int v7)), (zS I8 J9 tg))) rfl (Nat.le_of_ble_eq_true rfl) c13 ?_
  refine Runs.as (c' := (5, [.ref 93, .int a1, .int a2, .int a3], [.int v7], (zS I8 J9 tg))) rfl ?_
  by_cases c14 : v7 = 0
  · rw [if_pos c14] at h
    refine Runs.brT (P := v7 = 0) (a := 21) (b := 8) (L := [.ref 93, .int a1, .int a2, .int a3]) (S := []) (z := (zS I8 J9 tg)) rfl c14 ?_
    refine Runs.sN 1 (c' := (22, [.ref 93, .int a1, .int a2, .int a3], [.int 0], (zS I8 J9 tg))) rfl ?_
    subst h
    exact Runs.rt rfl
  · rw [if_neg c14] at h
    refine Runs.brF (P := v7 = 0) (a := 21) (b := 8) (L := [.ref 93, .int a1, .int a2, .int a3]) (S := []) (z := (zS I8 J9 tg)) rfl c14 ?_
    refine Runs.sN 2 (c' := (10, [.ref 93, .int a1, .int a2, .int a3], [.int (-1), .int a2], (zS I8 J9 tg))) rfl ?_
    by_cases c15 : a2 = (-1)
    · rw [if_pos c15] at h
      refine Runs.brT (P := a2 = (-1)) (a := 23) (b := 13) (L := [.ref 93, .int a1, .int a2, .int a3]) (S := []) (z := (zS I8 J9 tg)) rfl c15 ?_
      refine Runs.sN 10 (c' := (37, [.ref 93, .int a1, .int a2, .int a3], [.int a2, .int ((20 + (22 * a1)) + 2), .ref 94], (zS I8 J9 tg))) rfl ?_
      obtain ⟨c16, h⟩ := h
      refine Runs.to (c' := (38, [.ref 93, .int a1, .int a2, .int a3], [], (zS (up2 I8 94 (((20 + (22 * a1)) + 2).toNatClampNeg) a2) J9 tg))) (Runs.ist rfl (show (94 : Nat) < 114 by decide) rfl c16) ?_
      refine Runs.sN 10 (c' := (52, [.ref 93, .int a1, .int a2, .int a3], [.int a3, .int ((20 + (22 * a1)) + 3), .ref 94], (zS (up2 I8 94 (((20 + (22 * a1)) + 2).toNatClampNeg) a2) J9 tg))) rfl ?_
      by_cases c17 : a3 = 0
      · rw [if_pos c17] at h
        refine Runs.brT (P := a3 = 0) (a := 64) (b := 55) (L := [.ref 93, .int a1, .int a2, .int a3]) (S := [.int ((20 + (22 * a1)) + 3), .ref 94]) (z := (zS (up2 I8 94 (((20 + (22 * a1)) + 2).toNatClampNeg) a2) J9 tg)) rfl c17 ?_
        refine Runs.sN 1 (c' := (65, [.ref 93, .int a1, .int a2, .int a3], [.int 0, .int ((20 + (22 * a1)) + 3), .ref 94], (zS (up2 I8 94 (((20 + (22 * a1)) + 2).toNatClampNeg) a2) J9 tg))) rfl ?_
        obtain ⟨c18, h⟩ := h
        refine Runs.to (c' := (66, [.ref 93, .int a1, .int a2, .int a3], [], (zS (up2 (up2 I8 94 (((20 + (22 * a1)) + 2).toNatClampNeg) a2) 94 (((20 + (22 * a1)) + 3).toNatClampNeg) 0) J9 tg))) (Runs.ist rfl (show (94 : Nat) < 114 by decide) rfl c18) ?_
        refine Runs.sN 1 (c' := (67, [.ref 93, .int a1, .int a2, .int a3], [.int 1], (zS (up2 (up2 I8 94 (((20 + (22 * a1)) + 2).toNatClampNeg) a2) 94 (((20 + (22 * a1)) + 3).toNatClampNeg) 0) J9 tg))) rfl ?_
        subst h
        exact Runs.rt rfl
      · rw [if_neg c17] at h
        refine Runs.brF (P := a3 = 0) (a := 64) (b := 55) (L := [.ref 93, .int a1, .int a2, .int a3]) (S := [.int ((20 + (22 * a1)) + 3), .ref 94]) (z := (zS (up2 I8 94 (((20 + (22 * a1)) + 2).toNatClampNeg) a2) J9 tg)) rfl c17 ?_
        refine Runs.sN 2 (c' := (57, [.ref 93, .int a1, .int a2, .int a3], [.int (-1), .int a2, .int ((20 + (22 * a1)) + 3), .ref 94], (zS (up2 I8 94 (((20 + (22 * a1)) + 2).toNatClampNeg) a2) J9 tg))) rfl ?_
        by_cases c19 : a2 = (-1)
        · rw [if_pos c19] at h
          refine Runs.brT (P := a2 = (-1)) (a := 64) (b := 60) (L := [.ref 93, .int a1, .int a2, .int a3]) (S := [.int ((20 + (22 * a1)) + 3), .ref 94]) (z := (zS (up2 I8 94 (((20 + (22 * a1)) + 2).toNatClampNeg) a2) J9 tg)) rfl c19 ?_
          refine Runs.sN 1 (c' := (65, [.ref 93, .int a1, .int a2, .int a3], [.int 0, .int ((20 + (22 * a1)) + 3), .ref 94], (zS (up2 I8 94 (((20 + (22 * a1)) + 2).toNatClampNeg) a2) J9 tg))) rfl ?_
          obtain ⟨c20, h⟩ := h
          refine Runs.to (c' := (66, [.ref 93, .int a1, .int a2, .int a3], [], (zS (up2 (up2 I8 94 (((20 + (22 * a1)) + 2).toNatClampNeg) a2) 94 (((20 + (22 * a1)) + 3).toNatClampNeg) 0) J9 tg))) (Runs.ist rfl (show (94 : Nat) < 114 by decide) rfl c20) ?_
          refine Runs.sN 1 (c' := (67, [.ref 93, .int a1, .int a2, .int a3], [.int 1], (zS (up2 (up2 I8 94 (((20 + (22 * a1)) + 2).toNatClampNeg) a2) 94 (((20 + (22 * a1)) + 3).toNatClampNeg) 0) J9 tg))) rfl ?_
          subst h
          exact Runs.rt rfl
        · rw [if_neg c19] at h
          refine Runs.brF (P := a2 = (-1)) (a := 64) (b := 60) (L := [.ref 93, .int a1, .int a2, .int a3]) (S := [.int ((20 + (22 * a1)) + 3), .ref 94]) (z := (zS (up2 I8 94 (((20 + (22 * a1)) + 2).toNatClampNeg) a2) J9 tg)) rfl c19 ?_
          refine Runs.sN 2 (c' := (65, [.ref 93, .int a1, .int a2, .int a3], [.int 1, .int ((20 + (22 * a1)) + 3), .ref 94], (zS (up2 I8 94 (((20 + (22 * a1)) + 2).toNatClampNeg) a2) J9 tg))) rfl ?_
          obtain ⟨c21, h⟩ := h
          refine Runs.to (c' := (66, [.ref 93, .int a1, .int a2, .int a3], [], (zS (up2 (up2 I8 94 (((20 + (22 * a1)) + 2).toNatClampNeg) a2) 94 (((20 + (22 * a1)) + 3).toNatClampNeg) 1) J9 tg))) (Runs.ist rfl (show (94 : Nat) < 114 by decide) rfl c21) ?_
          refine Runs.sN 1 (c' := (67, [.ref 93, .int a1, .int a2, .int a3], [.int 1], (zS (up2 (up2 I8 94 (((20 + (22 * a1)) + 2).toNatClampNeg) a2) 94 (((20 + (22 * a1)) + 3).toNatClampNeg) 1) J9 tg))) rfl ?_
          subst h
          exact Runs.rt rfl
    · rw [if_neg c15] at h
      refine Runs.brF (P := a2 = (-1)) (a := 23) (b := 13) (L := [.ref 93, .int a1, .int a2, .int a3]) (S := []) (z := (zS I8 J9 tg)) rfl c15 ?_
      refine Runs.sN 2 (c' := (15, [.ref 93, .int a1, .int a2, .int a3], [.int a2, .ref 93], (zS I8 J9 tg))) rfl ?_
      obtain ⟨v10, I11, J12, c22, h⟩ := h
      refine Runs.cl (cm := 180) (as := [.ref 93, .int a2]) (rest := []) (r1 := ((some (.int v10)), (zS I11 J12 tg))) rfl (Nat.le_of_ble_eq_true rfl) c22 ?_
      refine Runs.as (c' := (18, [.ref 93, .int a1, .int a2, .int a3], [.int v10], (zS I11 J12 tg))) rfl ?_
      by_cases c23 : v10 = 0
      · rw [if_pos c23] at h
        refine Runs.brT (P := v10 = 0) (a := 21) (b := 23) (L := [.ref 93, .int a1, .int a2, .int a3]) (S := []) (z := (zS I11 J12 tg)) rfl c23 ?_
        refine Runs.sN 1 (c' := (22, [.ref 93, .int a1, .int a2, .int a3], [.int 0], (zS I11 J12 tg))) rfl ?_
        subst h
        exact Runs.rt rfl
      · rw [if_neg c23] at h
        refine Runs.brF (P := v10 = 0) (a := 21) (b := 23) (L := [.ref 93, .int a1, .int a2, .int a3]) (S := []) (z := (zS I11 J12 tg)) rfl c23 ?_
        refine Runs.sN 10 (c' := (37, [.ref 93, .int a1, .int a2, .int a3], [.int a2, .int ((20 + (22 * a1)) + 2), .ref 94], (zS I11 J12 tg))) rfl ?_
        obtain ⟨c24, h⟩ := h
        refine Runs.to (c' := (38, [.ref 93, .int a1, .int a2, .int a3], [], (zS (up2 I11 94 (((20 + (22 * a1)) + 2).toNatClampNeg) a2) J12 tg))) (Runs.ist rfl (show (94 : Nat) < 114 by decide) rfl c24) ?_
        refine Runs.sN 10 (c' := (52, [.ref 93, .int a1, .int a2, .int a3], [.int a3, .int ((20 + (22 * a1)) + 3), .ref 94], (zS (up2 I11 94 (((20 + (22 * a1)) + 2).toNatClampNeg) a2) J12 tg))) rfl ?_
        by_cases c25 : a3 = 0
        · rw [if_pos c25] at h
          refine Runs.brT (P := a3 = 0) (a := 64) (b := 55) (L := [.ref 93, .int a1, .int a2, .int a3]) (S := [.int ((20 + (22 * a1)) + 3), .ref 94]) (z := (zS (up2 I11 94 (((20 + (22 * a1)) + 2).toNatClampNeg) a2) J12 tg)) rfl c25 ?_
          refine Runs.sN 1 (c' := (65, [.ref 93, .int a1, .int a2, .int a3], [.int 0, .int ((20 + (22 * a1)) + 3), .ref 94], (zS (up2 I11 94 (((20 + (22 * a1)) + 2).toNatClampNeg) a2) J12 tg))) rfl ?_
          obtain ⟨c26, h⟩ := h
          refine Runs.to (c' := (66, [.ref 93, .int a1, .int a2, .int a3], [], (zS (up2 (up2 I11 94 (((20 + (22 * a1)) + 2).toNatClampNeg) a2) 94 (((20 + (22 * a1)) + 3).toNatClampNeg) 0) J12 tg))) (Runs.ist rfl (show (94 : Nat) < 114 by decide) rfl c26) ?_
          refine Runs.sN 1 (c' := (67, [.ref 93, .int a1, .int a2, .int a3], [.int 1], (zS (up2 (up2 I11 94 (((20 + (22 * a1)) + 2).toNatClampNeg) a2) 94 (((20 + (22 * a1)) + 3).toNatClampNeg) 0) J12 tg))) rfl ?_
          subst h
          exact Runs.rt rfl
        · rw [if_neg c25] at h
          refine Runs.brF (P := a3 = 0) (a := 64) (b := 55) (L := [.ref 93, .int a1, .int a2, .int a3]) (S := [.int ((20 + (22 * a1)) + 3), .ref 94]) (z := (zS (up2 I11 94 (((20 + (22 * a1)) + 2).toNatClampNeg) a2) J12 tg)) rfl c25 ?_
          refine Runs.sN 2 (c' := (57, [.ref 93, .int a1, .int a2, .int a3], [.int (-1), .int a2, .int ((20 + (22 * a1)) + 3), .ref 94], (zS (up2 I11 94 (((20 + (22 * a1)) + 2).toNatClampNeg) a2) J12 tg))) rfl ?_
          by_cases c27 : a2 = (-1)
          · rw [if_pos c27] at h
            refine Runs.brT (P := a2 = (-1)) (a := 64) (b := 60) (L := [.ref 93, .int a1, .int a2, .int a3]) (S := [.int ((20 + (22 * a1)) + 3), .ref 94]) (z := (zS (up2 I11 94 (((20 + (22 * a1)) + 2).toNatClampNeg) a2) J12 tg)) rfl c27 ?_
            refine Runs.sN 1 (c' := (65, [.ref 93, .int a1, .int a2, .int a3], [.int 0, .int ((20 + (22 * a1)) + 3), .ref 94], (zS (up2 I11 94 (((20 + (22 * a1)) + 2).toNatClampNeg) a2) J12 tg))) rfl ?_
            obtain ⟨c28, h⟩ := h
            refine Runs.to (c' := (66, [.ref 93, .int a1, .int a2, .int a3], [], (zS (up2 (up2 I11 94 (((20 + (22 * a1)) + 2).toNatClampNeg) a2) 94 (((20 + (22 * a1)) + 3).toNatClampNeg) 0) J12 tg))) (Runs.ist rfl (show (94 : Nat) < 114 by decide) rfl c28) ?_
            refine Runs.sN 1 (c' := (67, [.ref 93, .int a1, .int a2, .int a3], [.int 1], (zS (up2 (up2 I11 94 (((20 + (22 * a1)) + 2).toNatClampNeg) a2) 94 (((20 + (22 * a1)) + 3).toNatClampNeg) 0) J12 tg))) rfl ?_
            subst h
            exact Runs.rt rfl
          · rw [if_neg c27] at h
            refine Runs.brF (P := a2 = (-1)) (a := 64) (b := 60) (L := [.ref 93, .int a1, .int a2, .int a3]) (S := [.int ((20 + (22 * a1)) + 3), .ref 94]) (z := (zS (up2 I11 94 (((20 + (22 * a1)) + 2).toNatClampNeg) a2) J12 tg)) rfl c27 ?_
            refine Runs.sN 2 (c' := (65, [.ref 93, .int a1, .int a2, .int a3], [.int 1, .int ((20 + (22 * a1)) + 3), .ref 94], (zS (up2 I11 94 (((20 + (22 * a1)) + 2).toNatClampNeg) a2) J12 tg))) rfl ?_
            obtain ⟨c29, h⟩ := h
            refine Runs.to (c' := (66, [.ref 93, .int a1, .int a2, .int a3], [], (zS (up2 (up2 I11 94 (((20 + (22 * a1)) + 2).toNatClampNeg) a2) 94 (((20 + (22 * a1)) + 3).toNatClampNeg) 1) J12 tg))) (Runs.ist rfl (show (94 : Nat) < 114 by decide) rfl c29) ?_
            refine Runs.sN 1 (c' := (67, [.ref 93, .int a1, .int a2, .int a3], [.int 1], (zS (up2 (up2 I11 94 (((20 + (22 * a1)) + 2).toNatClampNeg) a2) 94 (((20 + (22 * a1)) + 3).toNatClampNeg) 1) J12 tg))) rfl ?_
            subst h
            exact Runs.rt rfl
-- X12_isWeight 
theorem sg_194 {L d : Nat} {xs : Nat → Int32} (I : Nat → Nat → Int32) (J : Nat → Nat → Int64) (tg : Option Nat) (a1 : Int32) {r : Option Value × SS} (h : (∃ (v4 : Int32) (I5 : Nat → Nat → Int32) (J6 : Nat → Nat → Int64), Runs (GW L xs) d 177 (0, [.int a1, .int 0, .int 99], [], (zS I J tg)) ((some (.int v4)), (zS I5 J6 tg)) ∧ (v4 = 0 ∨ v4 = 1) ∧ r = (some (.int v4), (zS I5 J6 tg)))) : Runs (GW L xs) (d + 1) 194 (0, [.int a1], [], (zS I J tg)) r := by
  refine Runs.sN 3 (c' := (4, [.int a1], [.int 99, .int 0, .int a1], (zS I J tg))) rfl ?_
  obtain ⟨v4, I5, J6, c7, h⟩ := h
  refine Runs.cl (cm := 177) (as := [.int a1, .int 0, .int 99]) (rest := []) (r1 := ((some (.int v4)), (zS I5 J6 tg))) rfl (Nat.le_of_ble_eq_true rfl) c7 ?_
  refine Runs.as (c' := (7, [.int a1], [.int v4], (zS I5 J6 tg))) rfl ?_
  obtain ⟨h0, h⟩ := h
  subst h
  exact Runs.zrt rfl rfl h0
-- X12_weights 
theorem sg_195 {L d : Nat} {xs : Nat → Int32} (I : Nat → Nat → Int32) (J : Nat → Nat → Int64) (tg : Option Nat) (a1 : Int32) (a2 : Int32) (a3 : Int32) (a4 : Int32) {r : Option Value × SS} (h : (∃ (v13 : Int32) (I14 : Nat → Nat → Int32) (J15 : Nat → Nat → Int64), Runs (GW L xs) d 194 (0, [.int a1], [], (zS I J tg)) ((some (.int v13)), (zS I14 J15 tg)) ∧ (if v13 = 0 then (r = (some (.int 0), (zS I14 J15 tg))) else (∃ (v16 : Int32) (I17 : Nat → Nat → Int32) (J18 : Nat → Nat → Int64), Runs (GW L xs) d 194 (0, [.int a2], [], (zS I14 J15 tg)) ((some (.int v16)), (zS I17 J18 tg)) ∧ (if v16 = 0 then (r = (some (.int 0), (zS I17 J18 tg))) else (∃ (v19 : Int32) (I20 : Nat → Nat → Int32) (J21 : Nat → Nat → Int64), Runs (GW L xs) d 194 (0, [.int a3], [], (zS I17 J18 tg)) ((some (.int v19)), (zS I20 J21 tg)) ∧ (if v19 = 0 then (r = (some (.int 0), (zS I20 J21 tg))) else (∃ (v22 : Int32) (I23 : Nat → Nat → Int32) (J24 : Nat → Nat → Int64), Runs (GW L xs) d 194 (0, [.int a4], [], (zS I20 J21 tg)) ((some (.int v22)), (zS I23 J24 tg)) ∧ (if v22 = 0 then (r = (some (.int 0), (zS I23 J24 tg))) else (r = (some (.int 1), (zS (up2 (up2 (up2 (up2 I23 94 8 a1) 94 9 a2) 94 10 a3) 94 11 a4) J24 tg)))))))))))) : Runs (GW L xs) (d + 1) 195 (0, [.ref 93, .int a1, .int a2, .int a3, .int a4], [], (zS I J tg)) r := by
  refine Runs.sN 1 (c' := (1, [.ref 93, .int a1, .int a2, .int a3, .int a4], [.int a1], (zS I J tg))) rfl ?_
  obtain ⟨v13, I14, J15, c25, h⟩ := h
  refine Runs.cl (cm := 194) (as := [.int a1]) (rest := []) (r1 := ((some (.int v13)), (zS I14 J15 tg))) rfl (Nat.le_of_ble_eq_true rfl) c25 ?_
  refine Runs.as (c' := (4, [.ref 93, .int a1, .int a2, .int a3, .int a4], [.int v13], (zS I14 J15 tg))) rfl ?_
  by_cases c26 : v13 = 0
  · rw [if_pos c26] at h
    refine Runs.brT (P := v13 = 0) (a := 29) (b := 7) (L := [.ref 93, .int a1, .int a2, .int a3, .int a4]) (S := []) (z := (zS I14 J15 tg)) rfl c26 ?_
    refine Runs.sN 1 (c' := (30, [.ref 93, .int a1, .int a2, .int a3, .int a4], [.int 0], (zS I14 J15 tg))) rfl ?_
    subst h
    exact Runs.rt rfl
  · rw [if_neg c26] at h
    refine Runs.brF (P := v13 = 0) (a := 29) (b := 7) (L := [.ref 93, .int a1, .int a2, .int a3, .int a4]) (S := []) (z := (zS I14 J15 tg)) rfl c26 ?_
    refine Runs.sN 1 (c' := (8, [.ref 93, .int a1, .int a2, .int a3, .int a4], [.int a2], (zS I14 J15 tg))) rfl ?_
    obtain ⟨v16, I17, J18, c27, h⟩ := h
    refine Runs.cl (cm := 194) (as := [.int a2]) (rest := []) (r1 := ((some (.int v16)), (zS I17 J18 tg))) rfl (Nat.le_of_ble_eq_true rfl) c27 ?_
    refine Runs.as (c' := (11, [.ref 93, .int a1, .int a2, .int a3, .int a4], [.int v16], (zS I17 J18 tg))) rfl ?_
    by_cases c28 : v16 = 0
    · rw [if_pos c28] at h
      refine Runs.brT (P := v16 = 0) (a := 29) (b := 14) (L := [.ref 93, .int a1, .int a2, .int a3, .int a4]) (S := []) (z := (zS I17 J18 tg)) rfl c28 ?_
      refine Runs.sN 1 (c' := (30, [.ref 93, .int a1, .int a2, .int a3, .int a4], [.int 0], (zS I17 J18 tg))) rfl ?_
      subst h
      exact Runs.rt rfl
    · rw [if_neg c28] at h
      refine Runs.brF (P := v16 = 0) (a := 29) (b := 14) (L := [.ref 93, .int a1, .int a2, .int a3, .int a4]) (S := []) (z := (zS I17 J18 tg)) rfl c28 ?_
      refine Runs.sN 1 (c' := (15, [.ref 93, .int a1, .int a2, .int a3, .int a4], [.int a3], (zS I17 J18 tg))) rfl ?_
      obtain ⟨v19, I20, J21, c29, h⟩ := h
      refine Runs.cl (cm := 194) (as := [.int a3]) (rest := []) (r1 := ((some (.int v19)), (zS I20 J21 tg))) rfl (Nat.le_of_ble_eq_true rfl) c29 ?_
      refine Runs.as (c' := (18, [.ref 93, .int a1, .int a2, .int a3, .int a4], [.int v19], (zS I20 J21 tg))) rfl ?_
      by_cases c30 : v19 = 0
      · rw [if_pos c30] at h
        refine Runs.brT (P := v19 = 0) (a := 29) (b := 21) (L := [.ref 93, .int a1, .int a2, .int a3, .int a4]) (S := []) (z := (zS I20 J21 tg)) rfl c30 ?_
        refine Runs.sN 1 (c' := (30, [.ref 93, .int a1, .int a2, .int a3, .int a4], [.int 0], (zS I20 J21 tg))) rfl ?_
        subst h
        exact Runs.rt rfl
      · rw [if_neg c30] at h
        refine Runs.brF (P := v19 = 0) (a := 29) (b := 21) (L := [.ref 93, .int a1, .int a2, .int a3, .int a4]) (S := []) (z := (zS I20 J21 tg)) rfl c30 ?_
        refine Runs.sN 1 (c' := (23, [.ref 93, .int a1, .int a2, .int a3, .int a4], [.int a4], (zS I20 J21 tg))) rfl ?_
        obtain ⟨v22, I23, J24, c31, h⟩ := h
        refine Runs.cl (cm := 194) (as := [.int a4]) (rest := []) (r1 := ((some (.int v22)), (zS I23 J24 tg))) rfl (Nat.le_of_ble_eq_true rfl) c31 ?_
        refine Runs.as (c' := (26, [.ref 93, .int a1, .int a2, .int a3, .int a4], [.int v22], (zS I23 J24 tg))) rfl ?_
        by_cases c32 : v22 = 0
        · rw [if_pos c32] at h
          refine Runs.brT (P := v22 = 0) (a := 29) (b := 31) (L := [.ref 93, .int a1, .int a2, .int a3, .int a4]) (S := []) (z := (zS I23 J24 tg)) rfl c32 ?_
          refine Runs.sN 1 (c' := (30, [.ref 93, .int a1, .int a2, .int a3, .int a4], [.int 0], (zS I23 J24 tg))) rfl ?_
          subst h
          exact Runs.rt rfl
        · rw [if_neg c32] at h
          refine Runs.brF (P := v22 = 0) (a := 29) (b := 31) (L := [.ref 93, .int a1, .int a2, .int a3, .int a4]) (S := []) (z := (zS I23 J24 tg)) rfl c32 ?_
          refine Runs.sN 21 (c' := (65, [.ref 93, .int a1, .int a2, .int a3, .int a4], [.int 1], (zS (up2 (up2 (up2 (up2 I23 94 8 a1) 94 9 a2) 94 10 a3) 94 11 a4) J24 tg))) rfl ?_
          subst h
          exact Runs.rt rfl
-- X12_pairCost 
theorem sg_196 {L d : Nat} {xs : Nat → Int32} (I : Nat → Nat → Int32) (J : Nat → Nat → Int64) (tg : Option Nat) (a1 : Int32) (a2 : Int32) {r : Option Value × SS} (h : (∃ (v7 : Int32) (I8 : Nat → Nat → Int32) (J9 : Nat → Nat → Int64), Runs (GW L xs) d 178 (0, [.int ((((a1 / 4) - (a1 / 4) / 9 * 9) - ((a1 / 4) - (a1 / 4) / 9 * 9) / 3 * 3) - (((a2 / 4) - (a2 / 4) / 9 * 9) - ((a2 / 4) - (a2 / 4) / 9 * 9) / 3 * 3))], [], (zS I J tg)) ((some (.int v7)), (zS I8 J9 tg)) ∧ ∃ (v10 : Int32) (I11 : Nat → Nat → Int32) (J12 : Nat → Nat → Int64), Runs (GW L xs) d 178 (0, [.int ((((a1 / 4) - (a1 / 4) / 9 * 9) / 3) - (((a2 / 4) - (a2 / 4) / 9 * 9) / 3))], [], (zS I8 J9 tg)) ((some (.int v10)), (zS I11 J12 tg)) ∧ (if v7 ≤ v10 then ((if (a1 - a1 / 4 * 4) = (a2 - a2 / 4 * 4) then (r = (some (.int (((I11 94 8) * v10) + 0)), (zS I11 J12 tg))) else (r = (some (.int (((I11 94 8) * v10) + (I11 94 9))), (zS I11 J12 tg))))) else ((if (a1 - a1 / 4 * 4) = (a2 - a2 / 4 * 4) then (r = (some (.int (((I11 94 8) * v7) + 0)), (zS I11 J12 tg))) else (r = (some (.int (((I11 94 8) * v7) + (I11 94 9))), (zS I11 J12 tg)))))))) : Runs (GW L xs) (d + 1) 196 (0, [.ref 93, .int a1, .int a2, vU, vU], [], (zS I J tg)) r := by
  refine Runs.sN 15 (c' := (17, [.ref 93, .int a1, .int a2, vU, vU], [.int ((((a1 / 4) - (a1 / 4) / 9 * 9) - ((a1 / 4) - (a1 / 4) / 9 * 9) / 3 * 3) - (((a2 / 4) - (a2 / 4) / 9 * 9) - ((a2 / 4) - (a2 / 4) / 9 * 9) / 3 * 3))], (zS I J tg))) rfl ?_
  obtain ⟨v7, I8, J9, c13, h⟩ := h
  refine Runs.cl (cm := 178) (as := [.int ((((a1 / 4) - (a1 / 4) / 9 * 9) - ((a1 / 4) - (a1 / 4) / 9 * 9) / 3 * 3) - (((a2 / 4) - (a2 / 4) / 9 * 9) - ((a2 / 4) - (a2 / 4) / 9 * 9) / 3 * 3))]) (rest := []) (r1 := ((some (.int v7)), (zS I8 J9 tg))) rfl (Nat.le_of_ble_eq_true rfl) c13 ?_
  refine Runs.as (c' := (20, [.ref 93, .int a1, .int a2, vU, vU], [.int v7], (zS I8 J9 tg))) rfl ?_
  refine Runs.sN 16 (c' := (38, [.ref 93, .int a1, .int a2, .int v7, vU], [.int ((((a1 / 4) - (a1 / 4) / 9 * 9) / 3) - (((a2 / 4) - (a2 / 4) / 9 * 9) / 3))], (zS I8 J9 tg))) rfl ?_
  obtain ⟨v10, I11, J12, c14, h⟩ := h
  refine Runs.cl (cm := 178) (as := [.int ((((a1 / 4) - (a1 / 4) / 9 * 9) / 3) - (((a2 / 4) - (a2 / 4) / 9 * 9) / 3))]) (rest := []) (r1 := ((some (.int v10)), (zS I11 J12 tg))) rfl (Nat.le_of_ble_eq_true rfl) c14 ?_
  refine Runs.as (c' := (41, [.ref 93, .int a1, .int a2, .int v7, vU], [.int v10], (zS I11 J12 tg))) rfl ?_
  refine Runs.sN 7 (c' := (53, [.ref 93, .int a1, .int a2, .int v7, .int v10], [.int v10, .int v7, .int (I11 94 8)], (zS I11 J12 tg))) rfl ?_
  by_cases c15 : v7 ≤ v10
  · rw [if_pos c15] at h
    refine Runs.brT (P := v7 ≤ v10) (a := 60) (b := 56) (L := [.ref 93, .int a1, .int a2, .int v7, .int v10]) (S := [.int (I11 94 8)]) (z := (zS I11 J12 tg)) rfl c15 ?_
    refine Runs.sN 8 (c' := (69, [.ref 93, .int a1, .int a2, .int v7, .int v10], [.int (a2 - a2 / 4 * 4), .int (a1 - a1 / 4 * 4), .int ((I11 94 8) * v10)], (zS I11 J12 tg))) rfl ?_
    by_cases c16 : (a1 - a1 / 4 * 4) = (a2 - a2 / 4 * 4)
    · rw [if_pos c16] at h
      refine Runs.brT (P := (a1 - a1 / 4 * 4) = (a2 - a2 / 4 * 4)) (a := 82) (b := 72) (L := [.ref 93, .int a1, .int a2, .int v7, .int v10]) (S := [.int ((I11 94 8) * v10)]) (z := (zS I11 J12 tg)) rfl c16 ?_
      refine Runs.sN 2 (c' := (84, [.ref 93, .int a1, .int a2, .int v7, .int v10], [.int (((I11 94 8) * v10) + 0)], (zS I11 J12 tg))) rfl ?_
      subst h
      exact Runs.rt rfl
    · rw [if_neg c16] at h
      refine Runs.brF (P := (a1 - a1 / 4 * 4) = (a2 - a2 / 4 * 4)) (a := 82) (b := 72) (L := [.ref 93, .int a1, .int a2, .int v7, .int v10]) (S := [.int ((I11 94 8) * v10)]) (z := (zS I11 J12 tg)) rfl c16 ?_
      refine Runs.sN 6 (c' := (84, [.ref 93, .int a1, .int a2, .int v7, .int v10], [.int (((I11 94 8) * v10) + (I11 94 9))], (zS I11 J12 tg))) rfl ?_
      subst h
      exact Runs.rt rfl
  · rw [if_neg c15] at h
    refine Runs.brF (P := v7 ≤ v10) (a := 60) (b := 56) (L := [.ref 93, .int a1, .int a2, .int v7, .int v10]) (S := [.int (I11 94 8)]) (z := (zS I11 J12 tg)) rfl c15 ?_
    refine Runs.sN 9 (c' := (69, [.ref 93, .int a1, .int a2, .int v7, .int v10], [.int (a2 - a2 / 4 * 4), .int (a1 - a1 / 4 * 4), .int ((I11 94 8) * v7)], (zS I11 J12 tg))) rfl ?_
    by_cases c17 : (a1 - a1 / 4 * 4) = (a2 - a2 / 4 * 4)
    · rw [if_pos c17] at h
      refine Runs.brT (P := (a1 - a1 / 4 * 4) = (a2 - a2 / 4 * 4)) (a := 82) (b := 72) (L := [.ref 93, .int a1, .int a2, .int v7, .int v10]) (S := [.int ((I11 94 8) * v7)]) (z := (zS I11 J12 tg)) rfl c17 ?_
      refine Runs.sN 2 (c' := (84, [.ref 93, .int a1, .int a2, .int v7, .int v10], [.int (((I11 94 8) * v7) + 0)], (zS I11 J12 tg))) rfl ?_
      subst h
      exact Runs.rt rfl
    · rw [if_neg c17] at h
      refine Runs.brF (P := (a1 - a1 / 4 * 4) = (a2 - a2 / 4 * 4)) (a := 82) (b := 72) (L := [.ref 93, .int a1, .int a2, .int v7, .int v10]) (S := [.int ((I11 94 8) * v7)]) (z := (zS I11 J12 tg)) rfl c17 ?_
      refine Runs.sN 6 (c' := (84, [.ref 93, .int a1, .int a2, .int v7, .int v10], [.int (((I11 94 8) * v7) + (I11 94 9))], (zS I11 J12 tg))) rfl ?_
      subst h
      exact Runs.rt rfl
-- X12_farOf 
theorem sg_197 {L d : Nat} {xs : Nat → Int32} (I : Nat → Nat → Int32) (J : Nat → Nat → Int64) (tg : Option Nat) (a1 : Int32) (a2 : Int32) {r : Option Value × SS} (h : (∃ (v58 : Int32) (I59 : Nat → Nat → Int32) (J60 : Nat → Nat → Int64), Runs (GW L xs) d 184 (0, [.ref 93, .int a2, .int 0], [], (zS I J tg)) ((some (.int v58)), (zS I59 J60 tg)) ∧ Runs (GW L xs) (d + 1) 197 (10, [.ref 93, .int a1, .int a2, .int v58, .int 0, vU, vU, vU, vU, vU], [], (zS I59 J60 tg)) r)) : Runs (GW L xs) (d + 1) 197 (0, [.ref 93, .int a1, .int a2, vU, vU, vU, vU, vU, vU, vU], [], (zS I J tg)) r := by
  refine Runs.sN 3 (c' := (3, [.ref 93, .int a1, .int a2, vU, vU, vU, vU, vU, vU, vU], [.int 0, .int a2, .ref 93], (zS I J tg))) rfl ?_
  obtain ⟨v58, I59, J60, c61, h⟩ := h
  refine Runs.cl (cm := 184) (as := [.ref 93, .int a2, .int 0]) (rest := []) (r1 := ((some (.int v58)), (zS I59 J60 tg))) rfl (Nat.le_of_ble_eq_true rfl) c61 ?_
  refine Runs.as (c' := (6, [.ref 93, .int a1, .int a2, vU, vU, vU, vU, vU, vU, vU], [.int v58], (zS I59 J60 tg))) rfl ?_
  refine Runs.sN 3 (c' := (10, [.ref 93, .int a1, .int a2, .int v58, .int 0, vU, vU, vU, vU, vU], [], (zS I59 J60 tg))) rfl ?_
  exact h
theorem sg_197_10 {L d : Nat} {xs : Nat → Int32} (I : Nat → Nat → Int32) (J : Nat → Nat → Int64) (tg : Option Nat) (x1 : Int32) (x2 : Int32) (x3 : Int32) (x4 : Int32) {r : Option Value × SS} (h : ((if (1 <<< (x3 &&& 31)) ≤ x4 then (Runs (GW L xs) (d + 1) 197 (45, [.ref 93, .int x1, .int x2, .int x3, .int 0, vU, vU, vU, vU, vU], [], (zS I J tg)) r) else ((if x4 = 0 then (¬ (x4 < 0 ∨ 64 ≤ (x4).toNatClampNeg) ∧ Runs (GW L xs) (d + 1) 197 (10, [.ref 93, .int x1, .int x2, .int x3, .int (x4 + 1), vU, vU, vU, vU, vU], [], (zS (up2 I 97 ((x4).toNatClampNeg) 0) J tg)) r) else (¬ (x4 < 0 ∨ 64 ≤ (x4).toNatClampNeg) ∧ Runs (GW L xs) (d + 1) 197 (10, [.ref 93, .int x1, .int x2, .int x3, .int (x4 + 1), vU, vU, vU, vU, vU], [], (zS (up2 I 97 ((x4).toNatClampNeg) 1000000) J tg)) r)))))) : Runs (GW L xs) (d + 1) 197 (10, [.ref 93, .int x1, .int x2, .int x3, .int x4, vU, vU, vU, vU, vU], [], (zS I J tg)) r := by
  refine Runs.sN 4 (c' := (15, [.ref 93, .int x1, .int x2, .int x3, .int x4, vU, vU, vU, vU, vU], [.int (1 <<< (x3 &&& 31)), .int x4], (zS I J tg))) rfl ?_
  by_cases c1 : (1 <<< (x3 &&& 31)) ≤ x4
  · rw [if_pos c1] at h
    refine Runs.brT (P := (1 <<< (x3 &&& 31)) ≤ x4) (a := 42) (b := 18) (L := [.ref 93, .int x1, .int x2, .int x3, .int x4, vU, vU, vU, vU, vU]) (S := []) (z := (zS I J tg)) rfl c1 ?_
    refine Runs.sN 2 (c' := (45, [.ref 93, .int x1, .int x2, .int x3, .int 0, vU, vU, vU, vU, vU], [], (zS I J tg))) rfl ?_
    exact h
  · rw [if_neg c1] at h
    refine Runs.brF (P := (1 <<< (x3 &&& 31)) ≤ x4) (a := 42) (b := 18) (L := [.ref 93, .int x1, .int x2, .int x3, .int x4, vU, vU, vU, vU, vU]) (S := []) (z := (zS I J tg)) rfl c1 ?_
    refine Runs.sN 4 (c' := (26, [.ref 93, .int x1, .int x2, .int x3, .int x4, vU, vU, vU, vU, vU], [.int x4, .int x4, .ref 97], (zS I J tg))) rfl ?_
    by_cases c2 : x4 = 0
    · rw [if_pos c2] at h
      refine Runs.brT (P := x4 = 0) (a := 29) (b := 33) (L := [.ref 93, .int x1, .int x2, .int x3, .int x4, vU, vU, vU, vU, vU]) (S := [.int x4, .ref 97]) (z := (zS I J tg)) rfl c2 ?_
      refine Runs.sN 2 (c' := (35, [.ref 93, .int x1, .int x2, .int x3, .int x4, vU, vU, vU, vU, vU], [.int 0, .int x4, .ref 97], (zS I J tg))) rfl ?_
      obtain ⟨c3, h⟩ := h
      refine Runs.to (c' := (36, [.ref 93, .int x1, .int x2, .int x3, .int x4, vU, vU, vU, vU, vU], [], (zS (up2 I 97 ((x4).toNatClampNeg) 0) J tg))) (Runs.ist rfl (show (97 : Nat) < 114 by decide) rfl c3) ?_
      refine Runs.sN 2 (c' := (10, [.ref 93, .int x1, .int x2, .int x3, .int (x4 + 1), vU, vU, vU, vU, vU], [], (zS (up2 I 97 ((x4).toNatClampNeg) 0) J tg))) rfl ?_
      exact h
    · rw [if_neg c2] at h
      refine Runs.brF (P := x4 = 0) (a := 29) (b := 33) (L := [.ref 93, .int x1, .int x2, .int x3, .int x4, vU, vU, vU, vU, vU]) (S := [.int x4, .ref 97]) (z := (zS I J tg)) rfl c2 ?_
      refine Runs.sN 1 (c' := (35, [.ref 93, .int x1, .int x2, .int x3, .int x4, vU, vU, vU, vU, vU], [.int 1000000, .int x4, .ref 97], (zS I J tg))) rfl ?_
      obtain ⟨c4, h⟩ := h
      refine Runs.to (c' := (36, [.ref 93, .int x1, .int x2, .int x3, .int x4, vU, vU, vU, vU, vU], [], (zS (up2 I 97 ((x4).toNatClampNeg) 1000000) J tg))) (Runs.ist rfl (show (97 : Nat) < 114 by decide) rfl c4) ?_
      refine Runs.sN 2 (c' := (10, [.ref 93, .int x1, .int x2, .int x3, .int (x4 + 1), vU, vU, vU, vU, vU], [], (zS (up2 I 97 ((x4).toNatClampNeg) 1000000) J tg))) rfl ?_
      exact h
theorem sg_197_45 {L d : Nat} {xs : Nat → Int32} (I : Nat → Nat → Int32) (J : Nat → Nat → Int64) (tg : Option Nat) (x1 : Int32) (x2 : Int32) (x3 : Int32) (x4 : Int32) {r : Option Value × SS} (h : (∃ (v1 : Int32) (I2 : Nat → Nat → Int32) (J3 : Nat → Nat → Int64), Runs (GW L xs) d 184 (0, [.ref 93, .int x1, .int 0], [], (zS I J tg)) ((some (.int v1)), (zS I2 J3 tg)) ∧ (if v1 ≤ x4 then (Runs (GW L xs) (d + 1) 197 (246, [.ref 93, .int x1, .int x2, .int x3, .int 1000000, .int 0, vU, vU, vU, vU], [], (zS I2 J3 tg)) r) else (∃ (v4 : Int32) (I5 : Nat → Nat → Int32) (J6 : Nat → Nat → Int64), Runs (GW L xs) d 184 (0, [.ref 93, .int x1, .int (4 + x4)], [], (zS I2 J3 tg)) ((some (.int v4)), (zS I5 J6 tg)) ∧ Runs (GW L xs) (d + 1) 197 (70, [.ref 93, .int x1, .int x2, .int x3, .int x4, .int v4, .int 0, vU, vU, vU], [], (zS I5 J6 tg)) r)))) : Runs (GW L xs) (d + 1) 197 (45, [.ref 93, .int x1, .int x2, .int x3, .int x4, vU, vU, vU, vU, vU], [], (zS I J tg)) r := by
  refine Runs.sN 4 (c' := (50, [.ref 93, .int x1, .int x2, .int x3, .int x4, vU, vU, vU, vU, vU], [.int 0, .int x1, .ref 93, .int x4], (zS I J tg))) rfl ?_
  obtain ⟨v1, I2, J3, c7, h⟩ := h
  refine Runs.cl (cm := 184) (as := [.ref 93, .int x1, .int 0]) (rest := [.int x4]) (r1 := ((some (.int v1)), (zS I2 J3 tg))) rfl (Nat.le_of_ble_eq_true rfl) c7 ?_
  refine Runs.as (c' := (53, [.ref 93, .int x1, .int x2, .int x3, .int x4, vU, vU, vU, vU, vU], [.int v1, .int x4], (zS I2 J3 tg))) rfl ?_
  by_cases c8 : v1 ≤ x4
  · rw [if_pos c8] at h
    refine Runs.brT (P := v1 ≤ x4) (a := 239) (b := 56) (L := [.ref 93, .int x1, .int x2, .int x3, .int x4, vU, vU, vU, vU, vU]) (S := []) (z := (zS I2 J3 tg)) rfl c8 ?_
    refine Runs.sN 4 (c' := (246, [.ref 93, .int x1, .int x2, .int x3, .int 1000000, .int 0, vU, vU, vU, vU], [], (zS I2 J3 tg))) rfl ?_
    exact h
  · rw [if_neg c8] at h
    refine Runs.brF (P := v1 ≤ x4) (a := 239) (b := 56) (L := [.ref 93, .int x1, .int x2, .int x3, .int x4, vU, vU, vU, vU, vU]) (S := []) (z := (zS I2 J3 tg)) rfl c8 ?_
    refine Runs.sN 5 (c' := (62, [.ref 93, .int x1, .int x2, .int x3, .int x4, vU, vU, vU, vU, vU], [.int (4 + x4), .int x1, .ref 93], (zS I2 J3 tg))) rfl ?_
    obtain ⟨v4, I5, J6, c9, h⟩ := h
    refine Runs.cl (cm := 184) (as := [.ref 93, .int x1, .int (4 + x4)]) (rest := []) (r1 := ((some (.int v4)), (zS I5 J6 tg))) rfl (Nat.le_of_ble_eq_true rfl) c9 ?_
    refine Runs.as (c' := (65, [.ref 93, .int x1, .int x2, .int x3, .int x4, vU, vU, vU, vU, vU], [.int v4], (zS I5 J6 tg))) rfl ?_
    refine Runs.sN 3 (c' := (70, [.ref 93, .int x1, .int x2, .int x3, .int x4, .int v4, .int 0, vU, vU, vU], [], (zS I5 J6 tg))) rfl ?_
    exact h
theorem sg_197_70 {L d : Nat} {xs : Nat → Int32} (I : Nat → Nat → Int32) (J : Nat → Nat → Int64) (tg : Option Nat) (x1 : Int32) (x2 : Int32) (x3 : Int32) (x4 : Int32) (x5 : Int32) (x6 : Int32) {r : Option Value × SS} (h : ((if (1 <<< (x3 &&& 31)) ≤ x6 then (Runs (GW L xs) (d + 1) 197 (205, [.ref 93, .int x1, .int x2, .int x3, .int x4, .int x5, .int 0, vU, vU, vU], [], (zS I J tg)) r) else (¬ (x6 < 0 ∨ 64 ≤ (x6).toNatClampNeg) ∧ ¬ (x6 < 0 ∨ 64 ≤ (x6).toNatClampNeg) ∧ Runs (GW L xs) (d + 1) 197 (103, [.ref 93, .int x1, .int x2, .int x3, .int x4, .int x5, .int x6, .int 0, vU, vU], [], (zS (up2 I 98 ((x6).toNatClampNeg) ((I 97 ((x6).toNatClampNeg)) + (I 94 10))) J tg)) r)))) : Runs (GW L xs) (d + 1) 197 (70, [.ref 93, .int x1, .int x2, .int x3, .int x4, .int x5, .int x6, vU, vU, vU], [], (zS I J tg)) r := by
  refine Runs.sN 4 (c' := (75, [.ref 93, .int x1, .int x2, .int x3, .int x4, .int x5, .int x6, vU, vU, vU], [.int (1 <<< (x3 &&& 31)), .int x6], (zS I J tg))) rfl ?_
  by_cases c1 : (1 <<< (x3 &&& 31)) ≤ x6
  · rw [if_pos c1] at h
    refine Runs.brT (P := (1 <<< (x3 &&& 31)) ≤ x6) (a := 202) (b := 78) (L := [.ref 93, .int x1, .int x2, .int x3, .int x4, .int x5, .int x6, vU, vU, vU]) (S := []) (z := (zS I J tg)) rfl c1 ?_
    refine Runs.sN 2 (c' := (205, [.ref 93, .int x1, .int x2, .int x3, .int x4, .int x5, .int 0, vU, vU, vU], [], (zS I J tg))) rfl ?_
    exact h
  · rw [if_neg c1] at h
    refine Runs.brF (P := (1 <<< (x3 &&& 31)) ≤ x6) (a := 202) (b := 78) (L := [.ref 93, .int x1, .int x2, .int x3, .int x4, .int x5, .int x6, vU, vU, vU]) (S := []) (z := (zS I J tg)) rfl c1 ?_
    refine Runs.sN 6 (c' := (90, [.ref 93, .int x1, .int x2, .int x3, .int x4, .int x5, .int x6, vU, vU, vU], [.int x6, .ref 97, .int x6, .ref 98], (zS I J tg))) rfl ?_
    obtain ⟨c2, h⟩ := h
    refine Runs.to (c' := (91, [.ref 93, .int x1, .int x2, .int x3, .int x4, .int x5, .int x6, vU, vU, vU], [.int (I 97 ((x6).toNatClampNeg)), .int x6, .ref 98], (zS I J tg))) (Runs.ild rfl (show (97 : Nat) < 114 by decide) rfl c2) ?_
    refine Runs.sN 5 (c' := (99, [.ref 93, .int x1, .int x2, .int x3, .int x4, .int x5, .int x6, vU, vU, vU], [.int ((I 97 ((x6).toNatClampNeg)) + (I 94 10)), .int x6, .ref 98], (zS I J tg))) rfl ?_
    obtain ⟨c3, h⟩ := h
    refine Runs.to (c' := (100, [.ref 93, .int x1, .int x2, .int x3, .int x4, .int x5, .int x6, vU, vU, vU], [], (zS (up2 I 98 ((x6).toNatClampNeg) ((I 97 ((x6).toNatClampNeg)) + (I 94 10))) J tg))) (Runs.ist rfl (show (98 : Nat) < 114 by decide) rfl c3) ?_
    refine Runs.sN 2 (c' := (103, [.ref 93, .int x1, .int x2, .int x3, .int x4, .int x5, .int x6, .int 0, vU, vU], [], (zS (up2 I 98 ((x6).toNatClampNeg) ((I 97 ((x6).toNatClampNeg)) + (I 94 10))) J tg))) rfl ?_
    exact h
theorem sg_197_103 {L d : Nat} {xs : Nat → Int32} (I : Nat → Nat → Int32) (J : Nat → Nat → Int64) (tg : Option Nat) (x1 : Int32) (x2 : Int32) (x3 : Int32) (x4 : Int32) (x5 : Int32) (x6 : Int32) (x7 : Int32) {r : Option Value × SS} (h : ((if x3 ≤ x7 then (Runs (GW L xs) (d + 1) 197 (70, [.ref 93, .int x1, .int x2, .int x3, .int x4, .int x5, .int (x6 + 1), vU, vU, vU], [], (zS I J tg)) r) else (∃ (v1 : Int32) (I2 : Nat → Nat → Int32) (J3 : Nat → Nat → Int64), Runs (GW L xs) d 184 (0, [.ref 93, .int x2, .int (4 + x7)], [], (zS I J tg)) ((some (.int v1)), (zS I2 J3 tg)) ∧ (if ((x6 >>> (x7 &&& 31)) &&& 1) = 0 then (Runs (GW L xs) (d + 1) 197 (103, [.ref 93, .int x1, .int x2, .int x3, .int x4, .int x5, .int x6, .int (x7 + 1), vU, vU], [], (zS I2 J3 tg)) r) else ((if (x5 / 36) = (v1 / 36) then (¬ ((x6 ^^^ (1 <<< (x7 &&& 31))) < 0 ∨ 64 ≤ (x6 ^^^ (1 <<< (x7 &&& 31))).toNatClampNeg) ∧ ∃ (v4 : Int32) (I5 : Nat → Nat → Int32) (J6 : Nat → Nat → Int64), Runs (GW L xs) d 196 (0, [.ref 93, .int x5, .int v1, vU, vU], [], (zS I2 J3 tg)) ((some (.int v4)), (zS I5 J6 tg)) ∧ ¬ (x6 < 0 ∨ 64 ≤ (x6).toNatClampNeg) ∧ (if (I5 98 ((x6).toNatClampNeg)) ≤ ((I2 97 ((x6 ^^^ (1 <<< (x7 &&& 31))).toNatClampNeg)) + v4) then (Runs (GW L xs) (d + 1) 197 (103, [.ref 93, .int x1, .int x2, .int x3, .int x4, .int x5, .int x6, .int (x7 + 1), vU, vU], [], (zS I5 J6 tg)) r) else (¬ (x6 < 0 ∨ 64 ≤ (x6).toNatClampNeg) ∧ Runs (GW L xs) (d + 1) 197 (103, [.ref 93, .int x1, .int x2, .int x3, .int x4, .int x5, .int x6, .int (x7 + 1), vU, vU], [], (zS (up2 I5 98 ((x6).toNatClampNeg) ((I2 97 ((x6 ^^^ (1 <<< (x7 &&& 31))).toNatClampNeg)) + v4)) J6 tg)) r))) else (Runs (GW L xs) (d + 1) 197 (103, [.ref 93, .int x1, .int x2, .int x3, .int x4, .int x5, .int x6, .int (x7 + 1), vU, vU], [], (zS I2 J3 tg)) r)))))))) : Runs (GW L xs) (d + 1) 197 (103, [.ref 93, .int x1, .int x2, .int x3, .int x4, .int x5, .int x6, .int x7, vU, vU], [], (zS I J tg)) r := by
  refine Runs.sN 2 (c' := (106, [.ref 93, .int x1, .int x2, .int x3, .int x4, .int x5, .int x6, .int x7, vU, vU], [.int x3, .int x7], (zS I J tg))) rfl ?_
  by_cases c7 : x3 ≤ x7
  · rw [if_pos c7] at h
    refine Runs.brT (P := x3 ≤ x7) (a := 196) (b := 109) (L := [.ref 93, .int x1, .int x2, .int x3, .int x4, .int x5, .int x6, .int x7, vU, vU]) (S := []) (z := (zS I J tg)) rfl c7 ?_
    refine Runs.sN 2 (c' := (70, [.ref 93, .int x1, .int x2, .int x3, .int x4, .int x5, .int (x6 + 1), .int x7, vU, vU], [], (zS I J tg))) rfl ?_
    exact Runs.weak (L := [.ref 93, .int x1, .int x2, .int x3, .int x4, .int x5, .int (x6 + 1), vU, vU, vU]) (Lle.k (Lle.k (Lle.k (Lle.k (Lle.k (Lle.k (Lle.k (Lle.u (Lle.k (Lle.k Lle.n)))))))))) h
  · rw [if_neg c7] at h
    refine Runs.brF (P := x3 ≤ x7) (a := 196) (b := 109) (L := [.ref 93, .int x1, .int x2, .int x3, .int x4, .int x5, .int x6, .int x7, vU, vU]) (S := []) (z := (zS I J tg)) rfl c7 ?_
    refine Runs.sN 5 (c' := (115, [.ref 93, .int x1, .int x2, .int x3, .int x4, .int x5, .int x6, .int x7, vU, vU], [.int (4 + x7), .int x2, .ref 93], (zS I J tg))) rfl ?_
    obtain ⟨v1, I2, J3, c8, h⟩ := h
    refine Runs.cl (cm := 184) (as := [.ref 93, .int x2, .int (4 + x7)]) (rest := []) (r1 := ((some (.int v1)), (zS I2 J3 tg))) rfl (Nat.le_of_ble_eq_true rfl) c8 ?_
    refine Runs.as (c' := (118, [.ref 93, .int x1, .int x2, .int x3, .int x4, .int x5, .int x6, .int x7, vU, vU], [.int v1], (zS I2 J3 tg))) rfl ?_
    refine Runs.sN 6 (c' := (127, [.ref 93, .int x1, .int x2, .int x3, .int x4, .int x5, .int x6, .int x7, .int v1, vU], [.int ((x6 >>> (x7 &&& 31)) &&& 1)], (zS I2 J3 tg))) rfl ?_
    by_cases c9 : ((x6 >>> (x7 &&& 31)) &&& 1) = 0
    · rw [if_pos c9] at h
      refine Runs.brT (P := ((x6 >>> (x7 &&& 31)) &&& 1) = 0) (a := 190) (b := 130) (L := [.ref 93, .int x1, .int x2, .int x3, .int x4, .int x5, .int x6, .int x7, .int v1, vU]) (S := []) (z := (zS I2 J3 tg)) rfl c9 ?_
      refine Runs.sN 2 (c' := (103, [.ref 93, .int x1, .int x2, .int x3, .int x4, .int x5, .int x6, .int (x7 + 1), .int v1, vU], [], (zS I2 J3 tg))) rfl ?_
      exact Runs.weak (L := [.ref 93, .int x1, .int x2, .int x3, .int x4, .int x5, .int x6, .int (x7 + 1), vU, vU]) (Lle.k (Lle.k (Lle.k (Lle.k (Lle.k (Lle.k (Lle.k (Lle.k (Lle.u (Lle.k Lle.n)))))))))) h
    · rw [if_neg c9] at h
      refine Runs.brF (P := ((x6 >>> (x7 &&& 31)) &&& 1) = 0) (a := 190) (b := 130) (L := [.ref 93, .int x1, .int x2, .int x3, .int x4, .int x5, .int x6, .int x7, .int v1, vU]) (S := []) (z := (zS I2 J3 tg)) rfl c9 ?_
      refine Runs.sN 6 (c' := (140, [.ref 93, .int x1, .int x2, .int x3, .int x4, .int x5, .int x6, .int x7, .int v1, vU], [.int (v1 / 36), .int (x5 / 36)], (zS I2 J3 tg))) rfl ?_
      by_cases c10 : (x5 / 36) = (v1 / 36)
      · rw [if_pos c10] at h
        refine Runs.brT (P := (x5 / 36) = (v1 / 36)) (a := 146) (b := 143) (L := [.ref 93, .int x1, .int x2, .int x3, .int x4, .int x5, .int x6, .int x7, .int v1, vU]) (S := []) (z := (zS I2 J3 tg)) rfl c10 ?_
        refine Runs.sN 7 (c' := (157, [.ref 93, .int x1, .int x2, .int x3, .int x4, .int x5, .int x6, .int x7, .int v1, vU], [.int (x6 ^^^ (1 <<< (x7 &&& 31))), .ref 97], (zS I2 J3 tg))) rfl ?_
        obtain ⟨c11, h⟩ := h
        refine Runs.to (c' := (158, [.ref 93, .int x1, .int x2, .int x3, .int x4, .int x5, .int x6, .int x7, .int v1, vU], [.int (I2 97 ((x6 ^^^ (1 <<< (x7 &&& 31))).toNatClampNeg))], (zS I2 J3 tg))) (Runs.ild rfl (show (97 : Nat) < 114 by decide) rfl c11) ?_
        refine Runs.sN 3 (c' := (163, [.ref 93, .int x1, .int x2, .int x3, .int x4, .int x5, .int x6, .int x7, .int v1, vU], [.int v1, .int x5, .ref 93, .int (I2 97 ((x6 ^^^ (1 <<< (x7 &&& 31))).toNatClampNeg))], (zS I2 J3 tg))) rfl ?_
        obtain ⟨v4, I5, J6, c12, h⟩ := h
        refine Runs.cl (cm := 196) (as := [.ref 93, .int x5, .int v1]) (rest := [.int (I2 97 ((x6 ^^^ (1 <<< (x7 &&& 31))).toNatClampNeg))]) (r1 := ((some (.int v4)), (zS I5 J6 tg))) rfl (Nat.le_of_ble_eq_true rfl) c12 ?_
        refine Runs.as (c' := (166, [.ref 93, .int x1, .int x2, .int x3, .int x4, .int x5, .int x6, .int x7, .int v1, vU], [.int v4, .int (I2 97 ((x6 ^^^ (1 <<< (x7 &&& 31))).toNatClampNeg))], (zS I5 J6 tg))) rfl ?_
        refine Runs.sN 6 (c' := (177, [.ref 93, .int x1, .int x2, .int x3, .int x4, .int x5, .int x6, .int x7, .int v1, .int ((I2 97 ((x6 ^^^ (1 <<< (x7 &&& 31))).toNatClampNeg)) + v4)], [.int x6, .ref 98, .int ((I2 97 ((x6 ^^^ (1 <<< (x7 &&& 31))).toNatClampNeg)) + v4)], (zS I5 J6 tg))) rfl ?_
        obtain ⟨c13, h⟩ := h
        refine Runs.to (c' := (178, [.ref 93, .int x1, .int x2, .int x3, .int x4, .int x5, .int x6, .int x7, .int v1, .int ((I2 97 ((x6 ^^^ (1 <<< (x7 &&& 31))).toNatClampNeg)) + v4)], [.int (I5 98 ((x6).toNatClampNeg)), .int ((I2 97 ((x6 ^^^ (1 <<< (x7 &&& 31))).toNatClampNeg)) + v4)], (zS I5 J6 tg))) (Runs.ild rfl (show (98 : Nat) < 114 by decide) rfl c13) ?_
        by_cases c14 : (I5 98 ((x6).toNatClampNeg)) ≤ ((I2 97 ((x6 ^^^ (1 <<< (x7 &&& 31))).toNatClampNeg)) + v4)
        · rw [if_pos c14] at h
          refine Runs.brT (P := (I5 98 ((x6).toNatClampNeg)) ≤ ((I2 97 ((x6 ^^^ (1 <<< (x7 &&& 31))).toNatClampNeg)) + v4)) (a := 190) (b := 181) (L := [.ref 93, .int x1, .int x2, .int x3, .int x4, .int x5, .int x6, .int x7, .int v1, .int ((I2 97 ((x6 ^^^ (1 <<< (x7 &&& 31))).toNatClampNeg)) + v4)]) (S := []) (z := (zS I5 J6 tg)) rfl c14 ?_
          refine Runs.sN 2 (c' := (103, [.ref 93, .int x1, .int x2, .int x3, .int x4, .int x5, .int x6, .int (x7 + 1), .int v1, .int ((I2 97 ((x6 ^^^ (1 <<< (x7 &&& 31))).toNatClampNeg)) + v4)], [], (zS I5 J6 tg))) rfl ?_
          exact Runs.weak (L := [.ref 93, .int x1, .int x2, .int x3, .int x4, .int x5, .int x6, .int (x7 + 1), vU, vU]) (Lle.k (Lle.k (Lle.k (Lle.k (Lle.k (Lle.k (Lle.k (Lle.k (Lle.u (Lle.u Lle.n)))))))))) h
        · rw [if_neg c14] at h
          refine Runs.brF (P := (I5 98 ((x6).toNatClampNeg)) ≤ ((I2 97 ((x6 ^^^ (1 <<< (x7 &&& 31))).toNatClampNeg)) + v4)) (a := 190) (b := 181) (L := [.ref 93, .int x1, .int x2, .int x3, .int x4, .int x5, .int x6, .int x7, .int v1, .int ((I2 97 ((x6 ^^^ (1 <<< (x7 &&& 31))).toNatClampNeg)) + v4)]) (S := []) (z := (zS I5 J6 tg)) rfl c14 ?_
          refine Runs.sN 4 (c' := (189, [.ref 93, .int x1, .int x2, .int x3, .int x4, .int x5, .int x6, .int x7, .int v1, .int ((I2 97 ((x6 ^^^ (1 <<< (x7 &&& 31))).toNatClampNeg)) + v4)], [.int ((I2 97 ((x6 ^^^ (1 <<< (x7 &&& 31))).toNatClampNeg)) + v4), .int x6, .ref 98], (zS I5 J6 tg))) rfl ?_
          obtain ⟨c15, h⟩ := h
          refine Runs.to (c' := (190, [.ref 93, .int x1, .int x2, .int x3, .int x4, .int x5, .int x6, .int x7, .int v1, .int ((I2 97 ((x6 ^^^ (1 <<< (x7 &&& 31))).toNatClampNeg)) + v4)], [], (zS (up2 I5 98 ((x6).toNatClampNeg) ((I2 97 ((x6 ^^^ (1 <<< (x7 &&& 31))).toNatClampNeg)) + v4)) J6 tg))) (Runs.ist rfl (show (98 : Nat) < 114 by decide) rfl c15) ?_
          refine Runs.sN 2 (c' := (103, [.ref 93, .int x1, .int x2, .int x3, .int x4, .int x5, .int x6, .int (x7 + 1), .int v1, .int ((I2 97 ((x6 ^^^ (1 <<< (x7 &&& 31))).toNatClampNeg)) + v4)], [], (zS (up2 I5 98 ((x6).toNatClampNeg) ((I2 97 ((x6 ^^^ (1 <<< (x7 &&& 31))).toNatClampNeg)) + v4)) J6 tg))) rfl ?_
          exact Runs.weak (L := [.ref 93, .int x1, .int x2, .int x3, .int x4, .int x5, .int x6, .int (x7 + 1), vU, vU]) (Lle.k (Lle.k (Lle.k (Lle.k (Lle.k (Lle.k (Lle.k (Lle.k (Lle.u (Lle.u Lle.n)))))))))) h
      · rw [if_neg c10] at h
        refine Runs.brF (P := (x5 / 36) = (v1 / 36)) (a := 146) (b := 143) (L := [.ref 93, .int x1, .int x2, .int x3, .int x4, .int x5, .int x6, .int x7, .int v1, vU]) (S := []) (z := (zS I2 J3 tg)) rfl c10 ?_
        refine Runs.sN 3 (c' := (103, [.ref 93, .int x1, .int x2, .int x3, .int x4, .int x5, .int x6, .int (x7 + 1), .int v1, vU], [], (zS I2 J3 tg))) rfl ?_
        exact Runs.weak (L := [.ref 93, .int x1, .int x2, .int x3, .int x4, .int x5, .int x6, .int (x7 + 1), vU, vU]) (Lle.k (Lle.k (Lle.k (Lle.k (Lle.k (Lle.k (Lle.k (Lle.k (Lle.u (Lle.k Lle.n)))))))))) h
theorem sg_197_205 {L d : Nat} {xs : Nat → Int32} (I : Nat → Nat → Int32) (J : Nat → Nat → Int64) (tg : Option Nat) (x1 : Int32) (x2 : Int32) (x3 : Int32) (x4 : Int32) (x5 : Int32) (x6 : Int32) {r : Option Value × SS} (h : ((if (1 <<< (x3 &&& 31)) ≤ x6 then (Runs (GW L xs) (d + 1) 197 (45, [.ref 93, .int x1, .int x2, .int x3, .int (x4 + 1), vU, vU, vU, vU, vU], [], (zS I J tg)) r) else (¬ (x6 < 0 ∨ 64 ≤ (x6).toNatClampNeg) ∧ ¬ (x6 < 0 ∨ 64 ≤ (x6).toNatClampNeg) ∧ Runs (GW L xs) (d + 1) 197 (205, [.ref 93, .int x1, .int x2, .int x3, .int x4, .int x5, .int (x6 + 1), vU, vU, vU], [], (zS (up2 I 97 ((x6).toNatClampNeg) (I 98 ((x6).toNatClampNeg))) J tg)) r)))) : Runs (GW L xs) (d + 1) 197 (205, [.ref 93, .int x1, .int x2, .int x3, .int x4, .int x5, .int x6, vU, vU, vU], [], (zS I J tg)) r := by
  refine Runs.sN 4 (c' := (210, [.ref 93, .int x1, .int x2, .int x3, .int x4, .int x5, .int x6, vU, vU, vU], [.int (1 <<< (x3 &&& 31)), .int x6], (zS I J tg))) rfl ?_
  by_cases c1 : (1 <<< (x3 &&& 31)) ≤ x6
  · rw [if_pos c1] at h
    refine Runs.brT (P := (1 <<< (x3 &&& 31)) ≤ x6) (a := 233) (b := 213) (L := [.ref 93, .int x1, .int x2, .int x3, .int x4, .int x5, .int x6, vU, vU, vU]) (S := []) (z := (zS I J tg)) rfl c1 ?_
    refine Runs.sN 2 (c' := (45, [.ref 93, .int x1, .int x2, .int x3, .int (x4 + 1), .int x5, .int x6, vU, vU, vU], [], (zS I J tg))) rfl ?_
    exact Runs.weak (L := [.ref 93, .int x1, .int x2, .int x3, .int (x4 + 1), vU, vU, vU, vU, vU]) (Lle.k (Lle.k (Lle.k (Lle.k (Lle.k (Lle.u (Lle.u (Lle.k (Lle.k (Lle.k Lle.n)))))))))) h
  · rw [if_neg c1] at h
    refine Runs.brF (P := (1 <<< (x3 &&& 31)) ≤ x6) (a := 233) (b := 213) (L := [.ref 93, .int x1, .int x2, .int x3, .int x4, .int x5, .int x6, vU, vU, vU]) (S := []) (z := (zS I J tg)) rfl c1 ?_
    refine Runs.sN 6 (c' := (225, [.ref 93, .int x1, .int x2, .int x3, .int x4, .int x5, .int x6, vU, vU, vU], [.int x6, .ref 98, .int x6, .ref 97], (zS I J tg))) rfl ?_
    obtain ⟨c2, h⟩ := h
    refine Runs.to (c' := (226, [.ref 93, .int x1, .int x2, .int x3, .int x4, .int x5, .int x6, vU, vU, vU], [.int (I 98 ((x6).toNatClampNeg)), .int x6, .ref 97], (zS I J tg))) (Runs.ild rfl (show (98 : Nat) < 114 by decide) rfl c2) ?_
    obtain ⟨c3, h⟩ := h
    refine Runs.to (c' := (227, [.ref 93, .int x1, .int x2, .int x3, .int x4, .int x5, .int x6, vU, vU, vU], [], (zS (up2 I 97 ((x6).toNatClampNeg) (I 98 ((x6).toNatClampNeg))) J tg))) (Runs.ist rfl (show (97 : Nat) < 114 by decide) rfl c3) ?_
    refine Runs.sN 2 (c' := (205, [.ref 93, .int x1, .int x2, .int x3, .int x4, .int x5, .int (x6 + 1), vU, vU, vU], [], (zS (up2 I 97 ((x6).toNatClampNeg) (I 98 ((x6).toNatClampNeg))) J tg))) rfl ?_
    exact h
theorem sg_197_246 {L d : Nat} {xs : Nat → Int32} (I : Nat → Nat → Int32) (J : Nat → Nat → Int64) (tg : Option Nat) (x1 : Int32) (x2 : Int32) (x3 : Int32) (x4 : Int32) (x5 : Int32) {r : Option Value × SS} (h : ((if (1 <<< (x3 &&& 31)) ≤ x5 then (∃ (v1 : Int32) (I2 : Nat → Nat → Int32) (J3 : Nat → Nat → Int64), Runs (GW L xs) d 184 (0, [.ref 93, .int x1, .int 1], [], (zS I J tg)) ((some (.int v1)), (zS I2 J3 tg)) ∧ ∃ (v4 : Int32) (I5 : Nat → Nat → Int32) (J6 : Nat → Nat → Int64), Runs (GW L xs) d 184 (0, [.ref 93, .int x2, .int 1], [], (zS I2 J3 tg)) ((some (.int v4)), (zS I5 J6 tg)) ∧ (if v1 = v4 then (r = (some (.int (x4 + 0)), (zS I5 J6 tg))) else (r = (some (.int (x4 + (I5 94 11))), (zS I5 J6 tg))))) else (¬ (x5 < 0 ∨ 64 ≤ (x5).toNatClampNeg) ∧ ∃ (v7 : Int32) (I8 : Nat → Nat → Int32) (J9 : Nat → Nat → Int64), Runs (GW L xs) d 185 (0, [.int x5, vU, vU], [], (zS I J tg)) ((some (.int v7)), (zS I8 J9 tg)) ∧ (if x4 ≤ ((I 97 ((x5).toNatClampNeg)) + ((I 94 10) * (x3 - v7))) then (Runs (GW L xs) (d + 1) 197 (246, [.ref 93, .int x1, .int x2, .int x3, .int x4, .int (x5 + 1), vU, vU, vU, vU], [], (zS I8 J9 tg)) r) else (Runs (GW L xs) (d + 1) 197 (246, [.ref 93, .int x1, .int x2, .int x3, .int ((I 97 ((x5).toNatClampNeg)) + ((I 94 10) * (x3 - v7))), .int (x5 + 1), vU, vU, vU, vU], [], (zS I8 J9 tg)) r)))))) : Runs (GW L xs) (d + 1) 197 (246, [.ref 93, .int x1, .int x2, .int x3, .int x4, .int x5, vU, vU, vU, vU], [], (zS I J tg)) r := by
  refine Runs.sN 4 (c' := (251, [.ref 93, .int x1, .int x2, .int x3, .int x4, .int x5, vU, vU, vU, vU], [.int (1 <<< (x3 &&& 31)), .int x5], (zS I J tg))) rfl ?_
  by_cases c10 : (1 <<< (x3 &&& 31)) ≤ x5
  · rw [if_pos c10] at h
    refine Runs.brT (P := (1 <<< (x3 &&& 31)) ≤ x5) (a := 296) (b := 254) (L := [.ref 93, .int x1, .int x2, .int x3, .int x4, .int x5, vU, vU, vU, vU]) (S := []) (z := (zS I J tg)) rfl c10 ?_
    refine Runs.sN 4 (c' := (301, [.ref 93, .int x1, .int x2, .int x3, .int x4, .int x5, vU, vU, vU, vU], [.int 1, .int x1, .ref 93, .int x4], (zS I J tg))) rfl ?_
    obtain ⟨v1, I2, J3, c11, h⟩ := h
    refine Runs.cl (cm := 184) (as := [.ref 93, .int x1, .int 1]) (rest := [.int x4]) (r1 := ((some (.int v1)), (zS I2 J3 tg))) rfl (Nat.le_of_ble_eq_true rfl) c11 ?_
    refine Runs.as (c' := (304, [.ref 93, .int x1, .int x2, .int x3, .int x4, .int x5, vU, vU, vU, vU], [.int v1, .int x4], (zS I2 J3 tg))) rfl ?_
    refine Runs.sN 3 (c' := (307, [.ref 93, .int x1, .int x2, .int x3, .int x4, .int x5, vU, vU, vU, vU], [.int 1, .int x2, .ref 93, .int v1, .int x4], (zS I2 J3 tg))) rfl ?_
    obtain ⟨v4, I5, J6, c12, h⟩ := h
    refine Runs.cl (cm := 184) (as := [.ref 93, .int x2, .int 1]) (rest := [.int v1, .int x4]) (r1 := ((some (.int v4)), (zS I5 J6 tg))) rfl (Nat.le_of_ble_eq_true rfl) c12 ?_
    refine Runs.as (c' := (310, [.ref 93, .int x1, .int x2, .int x3, .int x4, .int x5, vU, vU, vU, vU], [.int v4, .int v1, .int x4], (zS I5 J6 tg))) rfl ?_
    by_cases c13 : v1 = v4
    · rw [if_pos c13] at h
      refine Runs.brT (P := v1 = v4) (a := 323) (b := 313) (L := [.ref 93, .int x1, .int x2, .int x3, .int x4, .int x5, vU, vU, vU, vU]) (S := [.int x4]) (z := (zS I5 J6 tg)) rfl c13 ?_
      refine Runs.sN 2 (c' := (325, [.ref 93, .int x1, .int x2, .int x3, .int x4, .int x5, vU, vU, vU, vU], [.int (x4 + 0)], (zS I5 J6 tg))) rfl ?_
      subst h
      exact Runs.rt rfl
    · rw [if_neg c13] at h
      refine Runs.brF (P := v1 = v4) (a := 323) (b := 313) (L := [.ref 93, .int x1, .int x2, .int x3, .int x4, .int x5, vU, vU, vU, vU]) (S := [.int x4]) (z := (zS I5 J6 tg)) rfl c13 ?_
      refine Runs.sN 6 (c' := (325, [.ref 93, .int x1, .int x2, .int x3, .int x4, .int x5, vU, vU, vU, vU], [.int (x4 + (I5 94 11))], (zS I5 J6 tg))) rfl ?_
      subst h
      exact Runs.rt rfl
  · rw [if_neg c10] at h
    refine Runs.brF (P := (1 <<< (x3 &&& 31)) ≤ x5) (a := 296) (b := 254) (L := [.ref 93, .int x1, .int x2, .int x3, .int x4, .int x5, vU, vU, vU, vU]) (S := []) (z := (zS I J tg)) rfl c10 ?_
    refine Runs.sN 3 (c' := (260, [.ref 93, .int x1, .int x2, .int x3, .int x4, .int x5, vU, vU, vU, vU], [.int x5, .ref 97], (zS I J tg))) rfl ?_
    obtain ⟨c14, h⟩ := h
    refine Runs.to (c' := (261, [.ref 93, .int x1, .int x2, .int x3, .int x4, .int x5, vU, vU, vU, vU], [.int (I 97 ((x5).toNatClampNeg))], (zS I J tg))) (Runs.ild rfl (show (97 : Nat) < 114 by decide) rfl c14) ?_
    refine Runs.sN 6 (c' := (271, [.ref 93, .int x1, .int x2, .int x3, .int x4, .int x5, vU, vU, vU, vU], [.int x5, .int x3, .int (I 94 10), .int (I 97 ((x5).toNatClampNeg))], (zS I J tg))) rfl ?_
    obtain ⟨v7, I8, J9, c15, h⟩ := h
    refine Runs.cl (cm := 185) (as := [.int x5]) (rest := [.int x3, .int (I 94 10), .int (I 97 ((x5).toNatClampNeg))]) (r1 := ((some (.int v7)), (zS I8 J9 tg))) rfl (Nat.le_of_ble_eq_true rfl) c15 ?_
    refine Runs.as (c' := (274, [.ref 93, .int x1, .int x2, .int x3, .int x4, .int x5, vU, vU, vU, vU], [.int v7, .int x3, .int (I 94 10), .int (I 97 ((x5).toNatClampNeg))], (zS I8 J9 tg))) rfl ?_
    refine Runs.sN 6 (c' := (283, [.ref 93, .int x1, .int x2, .int x3, .int x4, .int x5, .int ((I 97 ((x5).toNatClampNeg)) + ((I 94 10) * (x3 - v7))), vU, vU, vU], [.int x4, .int ((I 97 ((x5).toNatClampNeg)) + ((I 94 10) * (x3 - v7)))], (zS I8 J9 tg))) rfl ?_
    by_cases c16 : x4 ≤ ((I 97 ((x5).toNatClampNeg)) + ((I 94 10) * (x3 - v7)))
    · rw [if_pos c16] at h
      refine Runs.brT (P := x4 ≤ ((I 97 ((x5).toNatClampNeg)) + ((I 94 10) * (x3 - v7)))) (a := 290) (b := 286) (L := [.ref 93, .int x1, .int x2, .int x3, .int x4, .int x5, .int ((I 97 ((x5).toNatClampNeg)) + ((I 94 10) * (x3 - v7))), vU, vU, vU]) (S := []) (z := (zS I8 J9 tg)) rfl c16 ?_
      refine Runs.sN 2 (c' := (246, [.ref 93, .int x1, .int x2, .int x3, .int x4, .int (x5 + 1), .int ((I 97 ((x5).toNatClampNeg)) + ((I 94 10) * (x3 - v7))), vU, vU, vU], [], (zS I8 J9 tg))) rfl ?_
      exact Runs.weak (L := [.ref 93, .int x1, .int x2, .int x3, .int x4, .int (x5 + 1), vU, vU, vU, vU]) (Lle.k (Lle.k (Lle.k (Lle.k (Lle.k (Lle.k (Lle.u (Lle.k (Lle.k (Lle.k Lle.n)))))))))) h
    · rw [if_neg c16] at h
      refine Runs.brF (P := x4 ≤ ((I 97 ((x5).toNatClampNeg)) + ((I 94 10) * (x3 - v7)))) (a := 290) (b := 286) (L := [.ref 93, .int x1, .int x2, .int x3, .int x4, .int x5, .int ((I 97 ((x5).toNatClampNeg)) + ((I 94 10) * (x3 - v7))), vU, vU, vU]) (S := []) (z := (zS I8 J9 tg)) rfl c16 ?_
      refine Runs.sN 4 (c' := (246, [.ref 93, .int x1, .int x2, .int x3, .int ((I 97 ((x5).toNatClampNeg)) + ((I 94 10) * (x3 - v7))), .int (x5 + 1), .int ((I 97 ((x5).toNatClampNeg)) + ((I 94 10) * (x3 - v7))), vU, vU, vU], [], (zS I8 J9 tg))) rfl ?_
      exact Runs.weak (L := [.ref 93, .int x1, .int x2, .int x3, .int ((I 97 ((x5).toNatClampNeg)) + ((I 94 10) * (x3 - v7))), .int (x5 + 1), vU, vU, vU, vU]) (Lle.k (Lle.k (Lle.k (Lle.k (Lle.k (Lle.k (Lle.u (Lle.k (Lle.k (Lle.k Lle.n)))))))))) h
-- X12_far 
theorem sg_198 {L d : Nat} {xs : Nat → Int32} (I : Nat → Nat → Int32) (J : Nat → Nat → Int64) (tg : Option Nat) (a1 : Int32) (a2 : Int32) {r : Option Value × SS} (h : (∃ (v10 : Int32) (I11 : Nat → Nat → Int32) (J12 : Nat → Nat → Int64), Runs (GW L xs) d 181 (0, [.ref 93, .int a1], [], (zS I J tg)) ((some (.int v10)), (zS I11 J12 tg)) ∧ (if v10 = 0 then (r = (some (.int (-1)), (zS I11 J12 tg))) else (∃ (v13 : Int32) (I14 : Nat → Nat → Int32) (J15 : Nat → Nat → Int64), Runs (GW L xs) d 181 (0, [.ref 93, .int a2], [], (zS I11 J12 tg)) ((some (.int v13)), (zS I14 J15 tg)) ∧ (if v13 = 0 then (r = (some (.int (-1)), (zS I14 J15 tg))) else (∃ (v16 : Int32) (I17 : Nat → Nat → Int32) (J18 : Nat → Nat → Int64), Runs (GW L xs) d 197 (0, [.ref 93, .int a1, .int a2, vU, vU, vU, vU, vU, vU, vU], [], (zS I14 J15 tg)) ((some (.int v16)), (zS I17 J18 tg)) ∧ r = (some (.int v16), (zS I17 J18 tg)))))))) : Runs (GW L xs) (d + 1) 198 (0, [.ref 93, .int a1, .int a2], [], (zS I J tg)) r := by
  refine Runs.sN 2 (c' := (2, [.ref 93, .int a1, .int a2], [.int a1, .ref 93], (zS I J tg))) rfl ?_
  obtain ⟨v10, I11, J12, c19, h⟩ := h
  refine Runs.cl (cm := 181) (as := [.ref 93, .int a1]) (rest := []) (r1 := ((some (.int v10)), (zS I11 J12 tg))) rfl (Nat.le_of_ble_eq_true rfl) c19 ?_
  refine Runs.as (c' := (5, [.ref 93, .int a1, .int a2], [.int v10], (zS I11 J12 tg))) rfl ?_
  by_cases c20 : v10 = 0
  · rw [if_pos c20] at h
    refine Runs.brT (P := v10 = 0) (a := 25) (b := 8) (L := [.ref 93, .int a1, .int a2]) (S := []) (z := (zS I11 J12 tg)) rfl c20 ?_
    refine Runs.sN 1 (c' := (26, [.ref 93, .int a1, .int a2], [.int (-1)], (zS I11 J12 tg))) rfl ?_
    subst h
    exact Runs.rt rfl
  · rw [if_neg c20] at h
    refine Runs.brF (P := v10 = 0) (a := 25) (b := 8) (L := [.ref 93, .int a1, .int a2]) (S := []) (z := (zS I11 J12 tg)) rfl c20 ?_
    refine Runs.sN 2 (c' := (10, [.ref 93, .int a1, .int a2], [.int a2, .ref 93], (zS I11 J12 tg))) rfl ?_
    obtain ⟨v13, I14, J15, c21, h⟩ := h
    refine Runs.cl (cm := 181) (as := [.ref 93, .int a2]) (rest := []) (r1 := ((some (.int v13)), (zS I14 J15 tg))) rfl (Nat.le_of_ble_eq_true rfl) c21 ?_
    refine Runs.as (c' := (13, [.ref 93, .int a1, .int a2], [.int v13], (zS I14 J15 tg))) rfl ?_
    by_cases c22 : v13 = 0
    · rw [if_pos c22] at h
      refine Runs.brT (P := v13 = 0) (a := 25) (b := 16) (L := [.ref 93, .int a1, .int a2]) (S := []) (z := (zS I14 J15 tg)) rfl c22 ?_
      refine Runs.sN 1 (c' := (26, [.ref 93, .int a1, .int a2], [.int (-1)], (zS I14 J15 tg))) rfl ?_
      subst h
      exact Runs.rt rfl
    · rw [if_neg c22] at h
      refine Runs.brF (P := v13 = 0) (a := 25) (b := 16) (L := [.ref 93, .int a1, .int a2]) (S := []) (z := (zS I14 J15 tg)) rfl c22 ?_
      refine Runs.sN 3 (c' := (19, [.ref 93, .int a1, .int a2], [.int a2, .int a1, .ref 93], (zS I14 J15 tg))) rfl ?_
      obtain ⟨v16, I17, J18, c23, h⟩ := h
      refine Runs.cl (cm := 197) (as := [.ref 93, .int a1, .int a2]) (rest := []) (r1 := ((some (.int v16)), (zS I17 J18 tg))) rfl (Nat.le_of_ble_eq_true rfl) c23 ?_
      refine Runs.as (c' := (22, [.ref 93, .int a1, .int a2], [.int v16], (zS I17 J18 tg))) rfl ?_
      refine Runs.sN 1 (c' := (26, [.ref 93, .int a1, .int a2], [.int v16], (zS I17 J18 tg))) rfl ?_
      subst h
      exact Runs.rt rfl
-- X12_told 
theorem sg_199 {L d : Nat} {xs : Nat → Int32} (I : Nat → Nat → Int32) (J : Nat → Nat → Int64) (tg : Option Nat) {r : Option Value × SS} (h : (r = (some (.int ((1 <<< ((I 94 2) &&& 31)) - 1)), (zS I J tg)))) : Runs (GW L xs) d 199 (0, [.ref 93], [], (zS I J tg)) r := by
  refine Runs.sN 8 (c' := (10, [.ref 93], [.int ((1 <<< ((I 94 2) &&& 31)) - 1)], (zS I J tg))) rfl ?_
  subst h
  exact Runs.rt rfl
-- X12_land 
theorem sg_200 {L d : Nat} {xs : Nat → Int32} (I : Nat → Nat → Int32) (J : Nat → Nat → Int64) (tg : Option Nat) (a1 : Int32) (a2 : Int32) (a3 : Int32) {r : Option Value × SS} (h : (∃ (v10 : Int32) (I11 : Nat → Nat → Int32) (J12 : Nat → Nat → Int64), Runs (GW L xs) d 182 (0, [.int a1], [], (zS I J tg)) ((some (.int v10)), (zS I11 J12 tg)) ∧ (if v10 = 0 then (r = (some (.int 0), (zS I11 J12 tg))) else (∃ (v13 : Int32) (I14 : Nat → Nat → Int32) (J15 : Nat → Nat → Int64), Runs (GW L xs) d 194 (0, [.int a2], [], (zS I11 J12 tg)) ((some (.int v13)), (zS I14 J15 tg)) ∧ (if v13 = 0 then (r = (some (.int 0), (zS I14 J15 tg))) else (¬ ((680 + a1) < 0 ∨ 1200 ≤ (680 + a1).toNatClampNeg) ∧ ∃ (v16 : Int32) (I17 : Nat → Nat → Int32) (J18 : Nat → Nat → Int64), Runs (GW L xs) d 199 (0, [.ref 93], [], (zS (up2 I14 94 ((680 + a1).toNatClampNeg) a2) J15 tg)) ((some (.int v16)), (zS I17 J18 tg)) ∧ ¬ ((690 + a1) < 0 ∨ 1200 ≤ (690 + a1).toNatClampNeg) ∧ r = (some (.int 1), (zS (up2 I17 94 ((690 + a1).toNatClampNeg) (a3 &&& v16)) J18 tg)))))))) : Runs (GW L xs) (d + 1) 200 (0, [.ref 93, .int a1, .int a2, .int a3], [], (zS I J tg)) r := by
  refine Runs.sN 1 (c' := (1, [.ref 93, .int a1, .int a2, .int a3], [.int a1], (zS I J tg))) rfl ?_
  obtain ⟨v10, I11, J12, c19, h⟩ := h
  refine Runs.cl (cm := 182) (as := [.int a1]) (rest := []) (r1 := ((some (.int v10)), (zS I11 J12 tg))) rfl (Nat.le_of_ble_eq_true rfl) c19 ?_
  refine Runs.as (c' := (4, [.ref 93, .int a1, .int a2, .int a3], [.int v10], (zS I11 J12 tg))) rfl ?_
  by_cases c20 : v10 = 0
  · rw [if_pos c20] at h
    refine Runs.brT (P := v10 = 0) (a := 14) (b := 7) (L := [.ref 93, .int a1, .int a2, .int a3]) (S := []) (z := (zS I11 J12 tg)) rfl c20 ?_
    refine Runs.sN 1 (c' := (15, [.ref 93, .int a1, .int a2, .int a3], [.int 0], (zS I11 J12 tg))) rfl ?_
    subst h
    exact Runs.rt rfl
  · rw [if_neg c20] at h
    refine Runs.brF (P := v10 = 0) (a := 14) (b := 7) (L := [.ref 93, .int a1, .int a2, .int a3]) (S := []) (z := (zS I11 J12 tg)) rfl c20 ?_
    refine Runs.sN 1 (c' := (8, [.ref 93, .int a1, .int a2, .int a3], [.int a2], (zS I11 J12 tg))) rfl ?_
    obtain ⟨v13, I14, J15, c21, h⟩ := h
    refine Runs.cl (cm := 194) (as := [.int a2]) (rest := []) (r1 := ((some (.int v13)), (zS I14 J15 tg))) rfl (Nat.le_of_ble_eq_true rfl) c21 ?_
    refine Runs.as (c' := (11, [.ref 93, .int a1, .int a2, .int a3], [.int v13], (zS I14 J15 tg))) rfl ?_
    by_cases c22 : v13 = 0
    · rw [if_pos c22] at h
      refine Runs.brT (P := v13 = 0) (a := 14) (b := 16) (L := [.ref 93, .int a1, .int a2, .int a3]) (S := []) (z := (zS I14 J15 tg)) rfl c22 ?_
      refine Runs.sN 1 (c' := (15, [.ref 93, .int a1, .int a2, .int a3], [.int 0], (zS I14 J15 tg))) rfl ?_
      subst h
      exact Runs.rt rfl
    · rw [if_neg c22] at h
      refine Runs.brF (P := v13 = 0) (a := 14) (b := 16) (L := [.ref 93, .int a1, .int a2, .int a3]) (S := []) (z := (zS I14 J15 tg)) rfl c22 ?_
      refine Runs.sN 6 (c' := (26, [.ref 93, .int a1, .int a2, .int a3], [.int a2, .int (680 + a1), .ref 94], (zS I14 J15 tg))) rfl ?_
      obtain ⟨c23, h⟩ := h
      refine Runs.to (c' := (27, [.ref 93, .int a1, .int a2, .int a3], [], (zS (up2 I14 94 ((680 + a1).toNatClampNeg) a2) J15 tg))) (Runs.ist rfl (show (94 : Nat) < 114 by decide) rfl c23) ?_
      refine Runs.sN 7 (c' := (38, [.ref 93, .int a1, .int a2, .int a3], [.ref 93, .int a3, .int (690 + a1), .ref 94], (zS (up2 I14 94 ((680 + a1).toNatClampNeg) a2) J15 tg))) rfl ?_
      obtain ⟨v16, I17, J18, c24, h⟩ := h
      refine Runs.cl (cm := 199) (as := [.ref 93]) (rest := [.int a3, .int (690 + a1), .ref 94]) (r1 := ((some (.int v16)), (zS I17 J18 tg))) rfl (Nat.le_of_ble_eq_true rfl) c24 ?_
      refine Runs.as (c' := (41, [.ref 93, .int a1, .int a2, .int a3], [.int v16, .int a3, .int (690 + a1), .ref 94], (zS I17 J18 tg))) rfl ?_
      refine Runs.sN 1 (c' := (42, [.ref 93, .int a1, .int a2, .int a3], [.int (a3 &&& v16), .int (690 + a1), .ref 94], (zS I17 J18 tg))) rfl ?_
      obtain ⟨c25, h⟩ := h
      refine Runs.to (c' := (43, [.ref 93, .int a1, .int a2, .int a3], [], (zS (up2 I17 94 ((690 + a1).toNatClampNeg) (a3 &&& v16)) J18 tg))) (Runs.ist rfl (show (94 : Nat) < 114 by decide) rfl c25) ?_
      refine Runs.sN 1 (c' := (44, [.ref 93, .int a1, .int a2, .int a3], [.int 1], (zS (up2 I17 94 ((690 + a1).toNatClampNeg) (a3 &&& v16)) J18 tg))) rfl ?_
      subst h
      exact Runs.rt rfl
-- X12_lean 
theorem sg_201 {L d : Nat} {xs : Nat → Int32} (I : Nat → Nat → Int32) (J : Nat → Nat → Int64) (tg : Option Nat) (a1 : Int32) (a2 : Int32) (a3 : Int32) {r : Option Value × SS} (h : (∃ (v10 : Int32) (I11 : Nat → Nat → Int32) (J12 : Nat → Nat → Int64), Runs (GW L xs) d 182 (0, [.int a1], [], (zS I J tg)) ((some (.int v10)), (zS I11 J12 tg)) ∧ (if v10 = 0 then (r = (some (.int 0), (zS I11 J12 tg))) else (∃ (v13 : Int32) (I14 : Nat → Nat → Int32) (J15 : Nat → Nat → Int64), Runs (GW L xs) d 180 (0, [.ref 93, .int a2], [], (zS I11 J12 tg)) ((some (.int v13)), (zS I14 J15 tg)) ∧ (if v13 = 0 then (r = (some (.int 0), (zS I14 J15 tg))) else (∃ (v16 : Int32) (I17 : Nat → Nat → Int32) (J18 : Nat → Nat → Int64), Runs (GW L xs) d 194 (0, [.int a3], [], (zS I14 J15 tg)) ((some (.int v16)), (zS I17 J18 tg)) ∧ (if v16 = 0 then (r = (some (.int 0), (zS I17 J18 tg))) else (¬ ((((700 + (12 * a1)) + a2) - 12) < 0 ∨ 1200 ≤ (((700 + (12 * a1)) + a2) - 12).toNatClampNeg) ∧ r = (some (.int 1), (zS (up2 I17 94 ((((700 + (12 * a1)) + a2) - 12).toNatClampNeg) a3) J18 tg)))))))))) : Runs (GW L xs) (d + 1) 201 (0, [.ref 93, .int a1, .int a2, .int a3], [], (zS I J tg)) r := by
  refine Runs.sN 1 (c' := (1, [.ref 93, .int a1, .int a2, .int a3], [.int a1], (zS I J tg))) rfl ?_
  obtain ⟨v10, I11, J12, c19, h⟩ := h
  refine Runs.cl (cm := 182) (as := [.int a1]) (rest := []) (r1 := ((some (.int v10)), (zS I11 J12 tg))) rfl (Nat.le_of_ble_eq_true rfl) c19 ?_
  refine Runs.as (c' := (4, [.ref 93, .int a1, .int a2, .int a3], [.int v10], (zS I11 J12 tg))) rfl ?_
  by_cases c20 : v10 = 0
  · rw [if_pos c20] at h
    refine Runs.brT (P := v10 = 0) (a := 22) (b := 7) (L := [.ref 93, .int a1, .int a2, .int a3]) (S := []) (z := (zS I11 J12 tg)) rfl c20 ?_
    refine Runs.sN 1 (c' := (23, [.ref 93, .int a1, .int a2, .int a3], [.int 0], (zS I11 J12 tg))) rfl ?_
    subst h
    exact Runs.rt rfl
  · rw [if_neg c20] at h
    refine Runs.brF (P := v10 = 0) (a := 22) (b := 7) (L := [.ref 93, .int a1, .int a2, .int a3]) (S := []) (z := (zS I11 J12 tg)) rfl c20 ?_
    refine Runs.sN 2 (c' := (9, [.ref 93, .int a1, .int a2, .int a3], [.int a2, .ref 93], (zS I11 J12 tg))) rfl ?_
    obtain ⟨v13, I14, J15, c21, h⟩ := h
    refine Runs.cl (cm := 180) (as := [.ref 93, .int a2]) (rest := []) (r1 := ((some (.int v13)), (zS I14 J15 tg))) rfl (Nat.le_of_ble_eq_true rfl) c21 ?_
    refine Runs.as (c' := (12, [.ref 93, .int a1, .int a2, .int a3], [.int v13], (zS I14 J15 tg))) rfl ?_
    by_cases c22 : v13 = 0
    · rw [if_pos c22] at h
      refine Runs.brT (P := v13 = 0) (a := 22) (b := 15) (L := [.ref 93, .int a1, .int a2, .int a3]) (S := []) (z := (zS I14 J15 tg)) rfl c22 ?_
      refine Runs.sN 1 (c' := (23, [.ref 93, .int a1, .int a2, .int a3], [.int 0], (zS I14 J15 tg))) rfl ?_
      subst h
      exact Runs.rt rfl
    · rw [if_neg c22] at h
      refine Runs.brF (P := v13 = 0) (a := 22) (b := 15) (L := [.ref 93, .int a1, .int a2, .int a3]) (S := []) (z := (zS I14 J15 tg)) rfl c22 ?_
      refine Runs.sN 1 (c' := (16, [.ref 93, .int a1, .int a2, .int a3], [.int a3], (zS I14 J15 tg))) rfl ?_
      obtain ⟨v16, I17, J18, c23, h⟩ := h
      refine Runs.cl (cm := 194) (as := [.int a3]) (rest := []) (r1 := ((some (.int v16)), (zS I17 J18 tg))) rfl (Nat.le_of_ble_eq_true rfl) c23 ?_
      refine Runs.as (c' := (19, [.ref 93, .int a1, .int a2, .int a3], [.int v16], (zS I17 J18 tg))) rfl ?_
      by_cases c24 : v16 = 0
      · rw [if_pos c24] at h
        refine Runs.brT (P := v16 = 0) (a := 22) (b := 24) (L := [.ref 93, .int a1, .int a2, .int a3]) (S := []) (z := (zS I17 J18 tg)) rfl c24 ?_
        refine Runs.sN 1 (c' := (23, [.ref 93, .int a1, .int a2, .int a3], [.int 0], (zS I17 J18 tg))) rfl ?_
        subst h
        exact Runs.rt rfl
      · rw [if_neg c24] at h
        refine Runs.brF (P := v16 = 0) (a := 22) (b := 24) (L := [.ref 93, .int a1, .int a2, .int a3]) (S := []) (z := (zS I17 J18 tg)) rfl c24 ?_
        refine Runs.sN 12 (c' := (42, [.ref 93, .int a1, .int a2, .int a3], [.int a3, .int (((700 + (12 * a1)) + a2) - 12), .ref 94], (zS I17 J18 tg))) rfl ?_
        obtain ⟨c25, h⟩ := h
        refine Runs.to (c' := (43, [.ref 93, .int a1, .int a2, .int a3], [], (zS (up2 I17 94 ((((700 + (12 * a1)) + a2) - 12).toNatClampNeg) a3) J18 tg))) (Runs.ist rfl (show (94 : Nat) < 114 by decide) rfl c25) ?_
        refine Runs.sN 1 (c' := (44, [.ref 93, .int a1, .int a2, .int a3], [.int 1], (zS (up2 I17 94 ((((700 + (12 * a1)) + a2) - 12).toNatClampNeg) a3) J18 tg))) rfl ?_
        subst h
        exact Runs.rt rfl
-- X12_rules 
theorem sg_202 {L d : Nat} {xs : Nat → Int32} (I : Nat → Nat → Int32) (J : Nat → Nat → Int64) (tg : Option Nat) (a1 : Int32) (a2 : Int32) (a3 : Int32) (a4 : Int32) {r : Option Value × SS} (h : (∃ (v13 : Int32) (I14 : Nat → Nat → Int32) (J15 : Nat → Nat → Int64), Runs (GW L xs) d 177 (0, [.int a1, .int 0, .int 999], [], (zS I J tg)) ((some (.int v13)), (zS I14 J15 tg)) ∧ (if v13 = 0 then (r = (some (.int 0), (zS I14 J15 tg))) else (∃ (v16 : Int32) (I17 : Nat → Nat → Int32) (J18 : Nat → Nat → Int64), Runs (GW L xs) d 194 (0, [.int a2], [], (zS I14 J15 tg)) ((some (.int v16)), (zS I17 J18 tg)) ∧ (if v16 = 0 then (r = (some (.int 0), (zS I17 J18 tg))) else (∃ (v19 : Int32) (I20 : Nat → Nat → Int32) (J21 : Nat → Nat → Int64), Runs (GW L xs) d 177 (0, [.int a3, .int 1, .int 1000], [], (zS I17 J18 tg)) ((some (.int v19)), (zS I20 J21 tg)) ∧ (if v19 = 0 then (r = (some (.int 0), (zS I20 J21 tg))) else (∃ (v22 : Int32) (I23 : Nat → Nat → Int32) (J24 : Nat → Nat → Int64), Runs (GW L xs) d 177 (0, [.int a4, .int 0, .int 1000], [], (zS I20 J21 tg)) ((some (.int v22)), (zS I23 J24 tg)) ∧ (if v22 = 0 then (r = (some (.int 0), (zS I23 J24 tg))) else (r = (some (.int 1), (zS (up2 (up2 (up2 (up2 I23 94 12 a1) 94 13 a2) 94 14 a3) 94 15 a4) J24 tg)))))))))))) : Runs (GW L xs) (d + 1) 202 (0, [.ref 93, .int a1, .int a2, .int a3, .int a4], [], (zS I J tg)) r := by
  refine Runs.sN 3 (c' := (5, [.ref 93, .int a1, .int a2, .int a3, .int a4], [.int 999, .int 0, .int a1], (zS I J tg))) rfl ?_
  obtain ⟨v13, I14, J15, c25, h⟩ := h
  refine Runs.cl (cm := 177) (as := [.int a1, .int 0, .int 999]) (rest := []) (r1 := ((some (.int v13)), (zS I14 J15 tg))) rfl (Nat.le_of_ble_eq_true rfl) c25 ?_
  refine Runs.as (c' := (8, [.ref 93, .int a1, .int a2, .int a3, .int a4], [.int v13], (zS I14 J15 tg))) rfl ?_
  by_cases c26 : v13 = 0
  · rw [if_pos c26] at h
    refine Runs.brT (P := v13 = 0) (a := 41) (b := 11) (L := [.ref 93, .int a1, .int a2, .int a3, .int a4]) (S := []) (z := (zS I14 J15 tg)) rfl c26 ?_
    refine Runs.sN 1 (c' := (42, [.ref 93, .int a1, .int a2, .int a3, .int a4], [.int 0], (zS I14 J15 tg))) rfl ?_
    subst h
    exact Runs.rt rfl
  · rw [if_neg c26] at h
    refine Runs.brF (P := v13 = 0) (a := 41) (b := 11) (L := [.ref 93, .int a1, .int a2, .int a3, .int a4]) (S := []) (z := (zS I14 J15 tg)) rfl c26 ?_
    refine Runs.sN 1 (c' := (12, [.ref 93, .int a1, .int a2, .int a3, .int a4], [.int a2], (zS I14 J15 tg))) rfl ?_
    obtain ⟨v16, I17, J18, c27, h⟩ := h
    refine Runs.cl (cm := 194) (as := [.int a2]) (rest := []) (r1 := ((some (.int v16)), (zS I17 J18 tg))) rfl (Nat.le_of_ble_eq_true rfl) c27 ?_
    refine Runs.as (c' := (15, [.ref 93, .int a1, .int a2, .int a3, .int a4], [.int v16], (zS I17 J18 tg))) rfl ?_
    by_cases c28 : v16 = 0
    · rw [if_pos c28] at h
      refine Runs.brT (P := v16 = 0) (a := 41) (b := 18) (L := [.ref 93, .int a1, .int a2, .int a3, .int a4]) (S := []) (z := (zS I17 J18 tg)) rfl c28 ?_
      refine Runs.sN 1 (c' := (42, [.ref 93, .int a1, .int a2, .int a3, .int a4], [.int 0], (zS I17 J18 tg))) rfl ?_
      subst h
      exact Runs.rt rfl
    · rw [if_neg c28] at h
      refine Runs.brF (P := v16 = 0) (a := 41) (b := 18) (L := [.ref 93, .int a1, .int a2, .int a3, .int a4]) (S := []) (z := (zS I17 J18 tg)) rfl c28 ?_
      refine Runs.sN 3 (c' := (23, [.ref 93, .int a1, .int a2, .int a3, .int a4], [.int 1000, .int 1, .int a3], (zS I17 J18 tg))) rfl ?_
      obtain ⟨v19, I20, J21, c29, h⟩ := h
      refine Runs.cl (cm := 177) (as := [.int a3, .int 1, .int 1000]) (rest := []) (r1 := ((some (.int v19)), (zS I20 J21 tg))) rfl (Nat.le_of_ble_eq_true rfl) c29 ?_
      refine Runs.as (c' := (26, [.ref 93, .int a1, .int a2, .int a3, .int a4], [.int v19], (zS I20 J21 tg))) rfl ?_
      by_cases c30 : v19 = 0
      · rw [if_pos c30] at h
        refine Runs.brT (P := v19 = 0) (a := 41) (b := 29) (L := [.ref 93, .int a1, .int a2, .int a3, .int a4]) (S := []) (z := (zS I20 J21 tg)) rfl c30 ?_
        refine Runs.sN 1 (c' := (42, [.ref 93, .int a1, .int a2, .int a3, .int a4], [.int 0], (zS I20 J21 tg))) rfl ?_
        subst h
        exact Runs.rt rfl
      · rw [if_neg c30] at h
        refine Runs.brF (P := v19 = 0) (a := 41) (b := 29) (L := [.ref 93, .int a1, .int a2, .int a3, .int a4]) (S := []) (z := (zS I20 J21 tg)) rfl c30 ?_
        refine Runs.sN 3 (c' := (35, [.ref 93, .int a1, .int a2, .int a3, .int a4], [.int 1000, .int 0, .int a4], (zS I20 J21 tg))) rfl ?_
        obtain ⟨v22, I23, J24, c31, h⟩ := h
        refine Runs.cl (cm := 177) (as := [.int a4, .int 0, .int 1000]) (rest := []) (r1 := ((some (.int v22)), (zS I23 J24 tg))) rfl (Nat.le_of_ble_eq_true rfl) c31 ?_
        refine Runs.as (c' := (38, [.ref 93, .int a1, .int a2, .int a3, .int a4], [.int v22], (zS I23 J24 tg))) rfl ?_
        by_cases c32 : v22 = 0
        · rw [if_pos c32] at h
          refine Runs.brT (P := v22 = 0) (a := 41) (b := 43) (L := [.ref 93, .int a1, .int a2, .int a3, .int a4]) (S := []) (z := (zS I23 J24 tg)) rfl c32 ?_
          refine Runs.sN 1 (c' := (42, [.ref 93, .int a1, .int a2, .int a3, .int a4], [.int 0], (zS I23 J24 tg))) rfl ?_
          subst h
          exact Runs.rt rfl
        · rw [if_neg c32] at h
          refine Runs.brF (P := v22 = 0) (a := 41) (b := 43) (L := [.ref 93, .int a1, .int a2, .int a3, .int a4]) (S := []) (z := (zS I23 J24 tg)) rfl c32 ?_
          refine Runs.sN 21 (c' := (77, [.ref 93, .int a1, .int a2, .int a3, .int a4], [.int 1], (zS (up2 (up2 (up2 (up2 I23 94 12 a1) 94 13 a2) 94 14 a3) 94 15 a4) J24 tg))) rfl ?_
          subst h
          exact Runs.rt rfl
-- X12_measure 
theorem sg_203 {L d : Nat} {xs : Nat → Int32} (I : Nat → Nat → Int32) (J : Nat → Nat → Int64) (tg : Option Nat) (a1 : Int32) (a2 : Int32) {r : Option Value × SS} (h : (Runs (GW L xs) (d + 1) 203 (2, [.ref 93, .int a1, .int a2, .int 0], [], (zS I J tg)) r)) : Runs (GW L xs) (d + 1) 203 (0, [.ref 93, .int a1, .int a2, vU], [], (zS I J tg)) r := by
  refine Runs.sN 2 (c' := (2, [.ref 93, .int a1, .int a2, .int 0], [], (zS I J tg))) rfl ?_
  exact h
theorem sg_203_2 {L d : Nat} {xs : Nat → Int32} (I : Nat → Nat → Int32) (J : Nat → Nat → Int64) (tg : Option Nat) (x1 : Int32) (x2 : Int32) (x3 : Int32) {r : Option Value × SS} (h : ((if (I 94 2) ≤ x3 then (r = (none, (zS I J tg))) else (∃ (v1 : Int32) (I2 : Nat → Nat → Int32) (J3 : Nat → Nat → Int64), Runs (GW L xs) d 197 (0, [.ref 93, .int x1, .int (12 + x3), vU, vU, vU, vU, vU, vU, vU], [], (zS I J tg)) ((some (.int v1)), (zS I2 J3 tg)) ∧ ¬ (((700 + (12 * x2)) + x3) < 0 ∨ 1200 ≤ ((700 + (12 * x2)) + x3).toNatClampNeg) ∧ ¬ (x3 < 0 ∨ 12 ≤ (x3).toNatClampNeg) ∧ Runs (GW L xs) (d + 1) 203 (2, [.ref 93, .int x1, .int x2, .int (x3 + 1)], [], (zS (up2 I2 99 ((x3).toNatClampNeg) (v1 - (I2 94 (((700 + (12 * x2)) + x3).toNatClampNeg)))) J3 tg)) r)))) : Runs (GW L xs) (d + 1) 203 (2, [.ref 93, .int x1, .int x2, .int x3], [], (zS I J tg)) r := by
  refine Runs.sN 5 (c' := (9, [.ref 93, .int x1, .int x2, .int x3], [.int (I 94 2), .int x3], (zS I J tg))) rfl ?_
  by_cases c4 : (I 94 2) ≤ x3
  · rw [if_pos c4] at h
    refine Runs.brT (P := (I 94 2) ≤ x3) (a := 49) (b := 12) (L := [.ref 93, .int x1, .int x2, .int x3]) (S := []) (z := (zS I J tg)) rfl c4 ?_
    subst h
    exact Runs.rt rfl
  · rw [if_neg c4] at h
    refine Runs.brF (P := (I 94 2) ≤ x3) (a := 49) (b := 12) (L := [.ref 93, .int x1, .int x2, .int x3]) (S := []) (z := (zS I J tg)) rfl c4 ?_
    refine Runs.sN 8 (c' := (23, [.ref 93, .int x1, .int x2, .int x3], [.int (12 + x3), .int x1, .ref 93, .int x3, .ref 99], (zS I J tg))) rfl ?_
    obtain ⟨v1, I2, J3, c5, h⟩ := h
    refine Runs.cl (cm := 197) (as := [.ref 93, .int x1, .int (12 + x3)]) (rest := [.int x3, .ref 99]) (r1 := ((some (.int v1)), (zS I2 J3 tg))) rfl (Nat.le_of_ble_eq_true rfl) c5 ?_
    refine Runs.as (c' := (26, [.ref 93, .int x1, .int x2, .int x3], [.int v1, .int x3, .ref 99], (zS I2 J3 tg))) rfl ?_
    refine Runs.sN 9 (c' := (40, [.ref 93, .int x1, .int x2, .int x3], [.int ((700 + (12 * x2)) + x3), .ref 94, .int v1, .int x3, .ref 99], (zS I2 J3 tg))) rfl ?_
    obtain ⟨c6, h⟩ := h
    refine Runs.to (c' := (41, [.ref 93, .int x1, .int x2, .int x3], [.int (I2 94 (((700 + (12 * x2)) + x3).toNatClampNeg)), .int v1, .int x3, .ref 99], (zS I2 J3 tg))) (Runs.ild rfl (show (94 : Nat) < 114 by decide) rfl c6) ?_
    refine Runs.sN 1 (c' := (42, [.ref 93, .int x1, .int x2, .int x3], [.int (v1 - (I2 94 (((700 + (12 * x2)) + x3).toNatClampNeg))), .int x3, .ref 99], (zS I2 J3 tg))) rfl ?_
    obtain ⟨c7, h⟩ := h
    refine Runs.to (c' := (43, [.ref 93, .int x1, .int x2, .int x3], [], (zS (up2 I2 99 ((x3).toNatClampNeg) (v1 - (I2 94 (((700 + (12 * x2)) + x3).toNatClampNeg)))) J3 tg))) (Runs.ist rfl (show (99 : Nat) < 114 by decide) rfl c7) ?_
    refine Runs.sN 2 (c' := (2, [.ref 93, .int x1, .int x2, .int (x3 + 1)], [], (zS (up2 I2 99 ((x3).toNatClampNeg) (v1 - (I2 94 (((700 + (12 * x2)) + x3).toNatClampNeg)))) J3 tg))) rfl ?_
    exact h
