-- X12_mended 
theorem sg_296 {L d : Nat} {xs : Nat → Int32} (I : Nat → Nat → Int32) (J : Nat → Nat → Int64) (tg : Option Nat) (a1 : Int32) (a2 : Int32) (a3 : Int32) (a4 : Int32) {r : Option Value × SS} (h : (∃ (v91 : Int32) (I92 : Nat → Nat → Int32) (J93 : Nat → Nat → Int64), Runs (GW L xs) d 179 (0, [.ref 93, .int a1], [], (zS I J tg)) ((some (.int v91)), (zS I92 J93 tg)) ∧ (if v91 = 0 then (Runs (GW L xs) (d + 1) 296 (42, [.ref 93, .int a1, .int a2, .int a3, .int a4, vU, vU, vU, vU], [], (zS I92 J93 tg)) r) else (∃ (v94 : Int32) (I95 : Nat → Nat → Int32) (J96 : Nat → Nat → Int64), Runs (GW L xs) d 179 (0, [.ref 93, .int a2], [], (zS I92 J93 tg)) ((some (.int v94)), (zS I95 J96 tg)) ∧ (if v94 = 0 then (Runs (GW L xs) (d + 1) 296 (42, [.ref 93, .int a1, .int a2, .int a3, .int a4, vU, vU, vU, vU], [], (zS I95 J96 tg)) r) else ((if a1 = a2 then (Runs (GW L xs) (d + 1) 296 (42, [.ref 93, .int a1, .int a2, .int a3, .int a4, vU, vU, vU, vU], [], (zS I95 J96 tg)) r) else (∃ (v97 : Int32) (I98 : Nat → Nat → Int32) (J99 : Nat → Nat → Int64), Runs (GW L xs) d 177 (0, [.int a3, .int 1, .int 999], [], (zS I95 J96 tg)) ((some (.int v97)), (zS I98 J99 tg)) ∧ (if v97 = 0 then (Runs (GW L xs) (d + 1) 296 (42, [.ref 93, .int a1, .int a2, .int a3, .int a4, vU, vU, vU, vU], [], (zS I98 J99 tg)) r) else (∃ (v100 : Int32) (I101 : Nat → Nat → Int32) (J102 : Nat → Nat → Int64), Runs (GW L xs) d 177 (0, [.int a4, .int 0, .int 3], [], (zS I98 J99 tg)) ((some (.int v100)), (zS I101 J102 tg)) ∧ (if v100 = 0 then (Runs (GW L xs) (d + 1) 296 (42, [.ref 93, .int a1, .int a2, .int a3, .int a4, vU, vU, vU, vU], [], (zS I101 J102 tg)) r) else (Runs (GW L xs) (d + 1) 296 (47, [.ref 93, .int a1, .int a2, .int a3, .int a4, .int 0, vU, vU, vU], [], (zS I101 J102 tg)) r)))))))))))) : Runs (GW L xs) (d + 1) 296 (0, [.ref 93, .int a1, .int a2, .int a3, .int a4, vU, vU, vU, vU], [], (zS I J tg)) r := by
  refine Runs.sN 2 (c' := (2, [.ref 93, .int a1, .int a2, .int a3, .int a4, vU, vU, vU, vU], [.int a1, .ref 93], (zS I J tg))) rfl ?_
  obtain ⟨v91, I92, J93, c103, h⟩ := h
  refine Runs.cl (cm := 179) (as := [.ref 93, .int a1]) (rest := []) (r1 := ((some (.int v91)), (zS I92 J93 tg))) rfl (Nat.le_of_ble_eq_true rfl) c103 ?_
  refine Runs.as (c' := (5, [.ref 93, .int a1, .int a2, .int a3, .int a4, vU, vU, vU, vU], [.int v91], (zS I92 J93 tg))) rfl ?_
  by_cases c104 : v91 = 0
  · rw [if_pos c104] at h
    refine Runs.brT (P := v91 = 0) (a := 42) (b := 8) (L := [.ref 93, .int a1, .int a2, .int a3, .int a4, vU, vU, vU, vU]) (S := []) (z := (zS I92 J93 tg)) rfl c104 ?_
    exact h
  · rw [if_neg c104] at h
    refine Runs.brF (P := v91 = 0) (a := 42) (b := 8) (L := [.ref 93, .int a1, .int a2, .int a3, .int a4, vU, vU, vU, vU]) (S := []) (z := (zS I92 J93 tg)) rfl c104 ?_
    refine Runs.sN 2 (c' := (10, [.ref 93, .int a1, .int a2, .int a3, .int a4, vU, vU, vU, vU], [.int a2, .ref 93], (zS I92 J93 tg))) rfl ?_
    obtain ⟨v94, I95, J96, c105, h⟩ := h
    refine Runs.cl (cm := 179) (as := [.ref 93, .int a2]) (rest := []) (r1 := ((some (.int v94)), (zS I95 J96 tg))) rfl (Nat.le_of_ble_eq_true rfl) c105 ?_
    refine Runs.as (c' := (13, [.ref 93, .int a1, .int a2, .int a3, .int a4, vU, vU, vU, vU], [.int v94], (zS I95 J96 tg))) rfl ?_
    by_cases c106 : v94 = 0
    · rw [if_pos c106] at h
      refine Runs.brT (P := v94 = 0) (a := 42) (b := 16) (L := [.ref 93, .int a1, .int a2, .int a3, .int a4, vU, vU, vU, vU]) (S := []) (z := (zS I95 J96 tg)) rfl c106 ?_
      exact h
    · rw [if_neg c106] at h
      refine Runs.brF (P := v94 = 0) (a := 42) (b := 16) (L := [.ref 93, .int a1, .int a2, .int a3, .int a4, vU, vU, vU, vU]) (S := []) (z := (zS I95 J96 tg)) rfl c106 ?_
      refine Runs.sN 2 (c' := (18, [.ref 93, .int a1, .int a2, .int a3, .int a4, vU, vU, vU, vU], [.int a2, .int a1], (zS I95 J96 tg))) rfl ?_
      by_cases c107 : a1 = a2
      · rw [if_pos c107] at h
        refine Runs.brT (P := a1 = a2) (a := 42) (b := 21) (L := [.ref 93, .int a1, .int a2, .int a3, .int a4, vU, vU, vU, vU]) (S := []) (z := (zS I95 J96 tg)) rfl c107 ?_
        exact h
      · rw [if_neg c107] at h
        refine Runs.brF (P := a1 = a2) (a := 42) (b := 21) (L := [.ref 93, .int a1, .int a2, .int a3, .int a4, vU, vU, vU, vU]) (S := []) (z := (zS I95 J96 tg)) rfl c107 ?_
        refine Runs.sN 3 (c' := (26, [.ref 93, .int a1, .int a2, .int a3, .int a4, vU, vU, vU, vU], [.int 999, .int 1, .int a3], (zS I95 J96 tg))) rfl ?_
        obtain ⟨v97, I98, J99, c108, h⟩ := h
        refine Runs.cl (cm := 177) (as := [.int a3, .int 1, .int 999]) (rest := []) (r1 := ((some (.int v97)), (zS I98 J99 tg))) rfl (Nat.le_of_ble_eq_true rfl) c108 ?_
        refine Runs.as (c' := (29, [.ref 93, .int a1, .int a2, .int a3, .int a4, vU, vU, vU, vU], [.int v97], (zS I98 J99 tg))) rfl ?_
        by_cases c109 : v97 = 0
        · rw [if_pos c109] at h
          refine Runs.brT (P := v97 = 0) (a := 42) (b := 32) (L := [.ref 93, .int a1, .int a2, .int a3, .int a4, vU, vU, vU, vU]) (S := []) (z := (zS I98 J99 tg)) rfl c109 ?_
          exact h
        · rw [if_neg c109] at h
          refine Runs.brF (P := v97 = 0) (a := 42) (b := 32) (L := [.ref 93, .int a1, .int a2, .int a3, .int a4, vU, vU, vU, vU]) (S := []) (z := (zS I98 J99 tg)) rfl c109 ?_
          refine Runs.sN 3 (c' := (36, [.ref 93, .int a1, .int a2, .int a3, .int a4, vU, vU, vU, vU], [.int 3, .int 0, .int a4], (zS I98 J99 tg))) rfl ?_
          obtain ⟨v100, I101, J102, c110, h⟩ := h
          refine Runs.cl (cm := 177) (as := [.int a4, .int 0, .int 3]) (rest := []) (r1 := ((some (.int v100)), (zS I101 J102 tg))) rfl (Nat.le_of_ble_eq_true rfl) c110 ?_
          refine Runs.as (c' := (39, [.ref 93, .int a1, .int a2, .int a3, .int a4, vU, vU, vU, vU], [.int v100], (zS I101 J102 tg))) rfl ?_
          by_cases c111 : v100 = 0
          · rw [if_pos c111] at h
            refine Runs.brT (P := v100 = 0) (a := 42) (b := 44) (L := [.ref 93, .int a1, .int a2, .int a3, .int a4, vU, vU, vU, vU]) (S := []) (z := (zS I101 J102 tg)) rfl c111 ?_
            exact h
          · rw [if_neg c111] at h
            refine Runs.brF (P := v100 = 0) (a := 42) (b := 44) (L := [.ref 93, .int a1, .int a2, .int a3, .int a4, vU, vU, vU, vU]) (S := []) (z := (zS I101 J102 tg)) rfl c111 ?_
            refine Runs.sN 2 (c' := (47, [.ref 93, .int a1, .int a2, .int a3, .int a4, .int 0, vU, vU, vU], [], (zS I101 J102 tg))) rfl ?_
            exact h
theorem sg_296_42 {L d : Nat} {xs : Nat → Int32} (I : Nat → Nat → Int32) (J : Nat → Nat → Int64) (tg : Option Nat) (x1 : Int32) (x2 : Int32) (x3 : Int32) (x4 : Int32) {r : Option Value × SS} (h : (r = (some (.int (-1)), (zS I J tg)))) : Runs (GW L xs) (d + 1) 296 (42, [.ref 93, .int x1, .int x2, .int x3, .int x4, vU, vU, vU, vU], [], (zS I J tg)) r := by
  refine Runs.sN 1 (c' := (43, [.ref 93, .int x1, .int x2, .int x3, .int x4, vU, vU, vU, vU], [.int (-1)], (zS I J tg))) rfl ?_
  subst h
  exact Runs.rt rfl
theorem sg_296_47 {L d : Nat} {xs : Nat → Int32} (I : Nat → Nat → Int32) (J : Nat → Nat → Int64) (tg : Option Nat) (x1 : Int32) (x2 : Int32) (x3 : Int32) (x4 : Int32) (x5 : Int32) {r : Option Value × SS} (h : (∃ (v1 : Int32) (I2 : Nat → Nat → Int32) (J3 : Nat → Nat → Int64), Runs (GW L xs) d 184 (0, [.ref 93, .int x1, .int 0], [], (zS I J tg)) ((some (.int v1)), (zS I2 J3 tg)) ∧ (if v1 ≤ x5 then (r = (some (.int (-1)), (zS I2 J3 tg))) else (∃ (v4 : Int32) (I5 : Nat → Nat → Int32) (J6 : Nat → Nat → Int64), Runs (GW L xs) d 184 (0, [.ref 93, .int x1, .int (4 + x5)], [], (zS I2 J3 tg)) ((some (.int v4)), (zS I5 J6 tg)) ∧ Runs (GW L xs) (d + 1) 296 (72, [.ref 93, .int x1, .int x2, .int x3, .int x4, .int x5, .int v4, .int 0, vU], [], (zS I5 J6 tg)) r)))) : Runs (GW L xs) (d + 1) 296 (47, [.ref 93, .int x1, .int x2, .int x3, .int x4, .int x5, vU, vU, vU], [], (zS I J tg)) r := by
  refine Runs.sN 4 (c' := (52, [.ref 93, .int x1, .int x2, .int x3, .int x4, .int x5, vU, vU, vU], [.int 0, .int x1, .ref 93, .int x5], (zS I J tg))) rfl ?_
  obtain ⟨v1, I2, J3, c7, h⟩ := h
  refine Runs.cl (cm := 184) (as := [.ref 93, .int x1, .int 0]) (rest := [.int x5]) (r1 := ((some (.int v1)), (zS I2 J3 tg))) rfl (Nat.le_of_ble_eq_true rfl) c7 ?_
  refine Runs.as (c' := (55, [.ref 93, .int x1, .int x2, .int x3, .int x4, .int x5, vU, vU, vU], [.int v1, .int x5], (zS I2 J3 tg))) rfl ?_
  by_cases c8 : v1 ≤ x5
  · rw [if_pos c8] at h
    refine Runs.brT (P := v1 ≤ x5) (a := 245) (b := 58) (L := [.ref 93, .int x1, .int x2, .int x3, .int x4, .int x5, vU, vU, vU]) (S := []) (z := (zS I2 J3 tg)) rfl c8 ?_
    refine Runs.sN 1 (c' := (246, [.ref 93, .int x1, .int x2, .int x3, .int x4, .int x5, vU, vU, vU], [.int (-1)], (zS I2 J3 tg))) rfl ?_
    subst h
    exact Runs.rt rfl
  · rw [if_neg c8] at h
    refine Runs.brF (P := v1 ≤ x5) (a := 245) (b := 58) (L := [.ref 93, .int x1, .int x2, .int x3, .int x4, .int x5, vU, vU, vU]) (S := []) (z := (zS I2 J3 tg)) rfl c8 ?_
    refine Runs.sN 5 (c' := (64, [.ref 93, .int x1, .int x2, .int x3, .int x4, .int x5, vU, vU, vU], [.int (4 + x5), .int x1, .ref 93], (zS I2 J3 tg))) rfl ?_
    obtain ⟨v4, I5, J6, c9, h⟩ := h
    refine Runs.cl (cm := 184) (as := [.ref 93, .int x1, .int (4 + x5)]) (rest := []) (r1 := ((some (.int v4)), (zS I5 J6 tg))) rfl (Nat.le_of_ble_eq_true rfl) c9 ?_
    refine Runs.as (c' := (67, [.ref 93, .int x1, .int x2, .int x3, .int x4, .int x5, vU, vU, vU], [.int v4], (zS I5 J6 tg))) rfl ?_
    refine Runs.sN 3 (c' := (72, [.ref 93, .int x1, .int x2, .int x3, .int x4, .int x5, .int v4, .int 0, vU], [], (zS I5 J6 tg))) rfl ?_
    exact h
theorem sg_296_72 {L d : Nat} {xs : Nat → Int32} (I : Nat → Nat → Int32) (J : Nat → Nat → Int64) (tg : Option Nat) (x1 : Int32) (x2 : Int32) (x3 : Int32) (x4 : Int32) (x5 : Int32) (x6 : Int32) (x7 : Int32) {r : Option Value × SS} (h : ((if 14 ≤ x7 then (Runs (GW L xs) (d + 1) 296 (47, [.ref 93, .int x1, .int x2, .int x3, .int x4, .int (x5 + 1), vU, vU, vU], [], (zS I J tg)) r) else ((if 9 ≤ x7 then ((if 13 ≤ x7 then (Runs (GW L xs) (d + 1) 296 (130, [.ref 93, .int x1, .int x2, .int x3, .int x4, .int x5, .int x6, .int x7, vU], [.int (-1)], (zS I J tg)) r) else (Runs (GW L xs) (d + 1) 296 (130, [.ref 93, .int x1, .int x2, .int x3, .int x4, .int x5, .int x6, .int x7, vU], [.int ((((x6 / 4) * 4) + x7) - 9)], (zS I J tg)) r))) else (Runs (GW L xs) (d + 1) 296 (130, [.ref 93, .int x1, .int x2, .int x3, .int x4, .int x5, .int x6, .int x7, vU], [.int ((((x6 / 36) * 36) + (4 * x7)) + (x6 - x6 / 4 * 4))], (zS I J tg)) r)))))) : Runs (GW L xs) (d + 1) 296 (72, [.ref 93, .int x1, .int x2, .int x3, .int x4, .int x5, .int x6, .int x7, vU], [], (zS I J tg)) r := by
  refine Runs.sN 2 (c' := (76, [.ref 93, .int x1, .int x2, .int x3, .int x4, .int x5, .int x6, .int x7, vU], [.int 14, .int x7], (zS I J tg))) rfl ?_
  by_cases c1 : 14 ≤ x7
  · rw [if_pos c1] at h
    refine Runs.brT (P := 14 ≤ x7) (a := 239) (b := 79) (L := [.ref 93, .int x1, .int x2, .int x3, .int x4, .int x5, .int x6, .int x7, vU]) (S := []) (z := (zS I J tg)) rfl c1 ?_
    refine Runs.sN 2 (c' := (47, [.ref 93, .int x1, .int x2, .int x3, .int x4, .int (x5 + 1), .int x6, .int x7, vU], [], (zS I J tg))) rfl ?_
    exact Runs.weak (L := [.ref 93, .int x1, .int x2, .int x3, .int x4, .int (x5 + 1), vU, vU, vU]) (Lle.k (Lle.k (Lle.k (Lle.k (Lle.k (Lle.k (Lle.u (Lle.u (Lle.k Lle.n))))))))) h
  · rw [if_neg c1] at h
    refine Runs.brF (P := 14 ≤ x7) (a := 239) (b := 79) (L := [.ref 93, .int x1, .int x2, .int x3, .int x4, .int x5, .int x6, .int x7, vU]) (S := []) (z := (zS I J tg)) rfl c1 ?_
    refine Runs.sN 2 (c' := (83, [.ref 93, .int x1, .int x2, .int x3, .int x4, .int x5, .int x6, .int x7, vU], [.int 9, .int x7], (zS I J tg))) rfl ?_
    by_cases c2 : 9 ≤ x7
    · rw [if_pos c2] at h
      refine Runs.brT (P := 9 ≤ x7) (a := 107) (b := 86) (L := [.ref 93, .int x1, .int x2, .int x3, .int x4, .int x5, .int x6, .int x7, vU]) (S := []) (z := (zS I J tg)) rfl c2 ?_
      refine Runs.sN 2 (c' := (111, [.ref 93, .int x1, .int x2, .int x3, .int x4, .int x5, .int x6, .int x7, vU], [.int 13, .int x7], (zS I J tg))) rfl ?_
      by_cases c3 : 13 ≤ x7
      · rw [if_pos c3] at h
        refine Runs.brT (P := 13 ≤ x7) (a := 129) (b := 114) (L := [.ref 93, .int x1, .int x2, .int x3, .int x4, .int x5, .int x6, .int x7, vU]) (S := []) (z := (zS I J tg)) rfl c3 ?_
        refine Runs.sN 1 (c' := (130, [.ref 93, .int x1, .int x2, .int x3, .int x4, .int x5, .int x6, .int x7, vU], [.int (-1)], (zS I J tg))) rfl ?_
        exact h
      · rw [if_neg c3] at h
        refine Runs.brF (P := 13 ≤ x7) (a := 129) (b := 114) (L := [.ref 93, .int x1, .int x2, .int x3, .int x4, .int x5, .int x6, .int x7, vU]) (S := []) (z := (zS I J tg)) rfl c3 ?_
        refine Runs.sN 10 (c' := (130, [.ref 93, .int x1, .int x2, .int x3, .int x4, .int x5, .int x6, .int x7, vU], [.int ((((x6 / 4) * 4) + x7) - 9)], (zS I J tg))) rfl ?_
        exact h
    · rw [if_neg c2] at h
      refine Runs.brF (P := 9 ≤ x7) (a := 107) (b := 86) (L := [.ref 93, .int x1, .int x2, .int x3, .int x4, .int x5, .int x6, .int x7, vU]) (S := []) (z := (zS I J tg)) rfl c2 ?_
      refine Runs.sN 14 (c' := (130, [.ref 93, .int x1, .int x2, .int x3, .int x4, .int x5, .int x6, .int x7, vU], [.int ((((x6 / 36) * 36) + (4 * x7)) + (x6 - x6 / 4 * 4))], (zS I J tg))) rfl ?_
      exact h
theorem sg_296_130 {L d : Nat} {xs : Nat → Int32} (I : Nat → Nat → Int32) (J : Nat → Nat → Int64) (tg : Option Nat) (x1 : Int32) (x2 : Int32) (x3 : Int32) (x4 : Int32) (x5 : Int32) (x6 : Int32) (x7 : Int32) (y0 : Int32) {r : Option Value × SS} (h : (∃ (v1 : Int32) (I2 : Nat → Nat → Int32) (J3 : Nat → Nat → Int64), Runs (GW L xs) d 295 (0, [.ref 93, .int x1, .int x2, .int x5, .int y0, .int x3, vU], [], (zS I J tg)) ((some (.int v1)), (zS I2 J3 tg)) ∧ (if v1 = 0 then (Runs (GW L xs) (d + 1) 296 (72, [.ref 93, .int x1, .int x2, .int x3, .int x4, .int x5, .int x6, .int (x7 + 1), vU], [], (zS I2 J3 tg)) r) else ((if x4 = 0 then (Runs (GW L xs) (d + 1) 296 (232, [.ref 93, .int x1, .int x2, .int x3, .int x4, .int x5, .int x6, .int x7, .int y0], [.int x5], (zS I2 J3 tg)) r) else ((if x4 = 1 then ((if 9 ≤ x7 then ((if 13 ≤ x7 then (Runs (GW L xs) (d + 1) 296 (232, [.ref 93, .int x1, .int x2, .int x3, .int x4, .int x5, .int x6, .int x7, .int y0], [.int 2], (zS I2 J3 tg)) r) else (Runs (GW L xs) (d + 1) 296 (232, [.ref 93, .int x1, .int x2, .int x3, .int x4, .int x5, .int x6, .int x7, .int y0], [.int 1], (zS I2 J3 tg)) r))) else (Runs (GW L xs) (d + 1) 296 (232, [.ref 93, .int x1, .int x2, .int x3, .int x4, .int x5, .int x6, .int x7, .int y0], [.int 0], (zS I2 J3 tg)) r))) else ((if x4 = 3 then (Runs (GW L xs) (d + 1) 296 (232, [.ref 93, .int x1, .int x2, .int x3, .int x4, .int x5, .int x6, .int x7, .int y0], [.int (I2 93 39)], (zS I2 J3 tg)) r) else ((if 9 ≤ x7 then ((if 13 ≤ x7 then (Runs (GW L xs) (d + 1) 296 (232, [.ref 93, .int x1, .int x2, .int x3, .int x4, .int x5, .int x6, .int x7, .int y0], [.int (-1)], (zS I2 J3 tg)) r) else (Runs (GW L xs) (d + 1) 296 (232, [.ref 93, .int x1, .int x2, .int x3, .int x4, .int x5, .int x6, .int x7, .int y0], [.int (x7 - 9)], (zS I2 J3 tg)) r))) else (Runs (GW L xs) (d + 1) 296 (232, [.ref 93, .int x1, .int x2, .int x3, .int x4, .int x5, .int x6, .int x7, .int y0], [.int x7], (zS I2 J3 tg)) r)))))))))))) : Runs (GW L xs) (d + 1) 296 (130, [.ref 93, .int x1, .int x2, .int x3, .int x4, .int x5, .int x6, .int x7, vU], [.int y0], (zS I J tg)) r := by
  refine Runs.sN 7 (c' := (140, [.ref 93, .int x1, .int x2, .int x3, .int x4, .int x5, .int x6, .int x7, .int y0], [.int x3, .int y0, .int x5, .int x2, .int x1, .ref 93], (zS I J tg))) rfl ?_
  obtain ⟨v1, I2, J3, c4, h⟩ := h
  refine Runs.cl (cm := 295) (as := [.ref 93, .int x1, .int x2, .int x5, .int y0, .int x3]) (rest := []) (r1 := ((some (.int v1)), (zS I2 J3 tg))) rfl (Nat.le_of_ble_eq_true rfl) c4 ?_
  refine Runs.as (c' := (143, [.ref 93, .int x1, .int x2, .int x3, .int x4, .int x5, .int x6, .int x7, .int y0], [.int v1], (zS I2 J3 tg))) rfl ?_
  by_cases c5 : v1 = 0
  · rw [if_pos c5] at h
    refine Runs.brT (P := v1 = 0) (a := 146) (b := 149) (L := [.ref 93, .int x1, .int x2, .int x3, .int x4, .int x5, .int x6, .int x7, .int y0]) (S := []) (z := (zS I2 J3 tg)) rfl c5 ?_
    refine Runs.sN 3 (c' := (72, [.ref 93, .int x1, .int x2, .int x3, .int x4, .int x5, .int x6, .int (x7 + 1), .int y0], [], (zS I2 J3 tg))) rfl ?_
    exact Runs.weak (L := [.ref 93, .int x1, .int x2, .int x3, .int x4, .int x5, .int x6, .int (x7 + 1), vU]) (Lle.k (Lle.k (Lle.k (Lle.k (Lle.k (Lle.k (Lle.k (Lle.k (Lle.u Lle.n))))))))) h
  · rw [if_neg c5] at h
    refine Runs.brF (P := v1 = 0) (a := 146) (b := 149) (L := [.ref 93, .int x1, .int x2, .int x3, .int x4, .int x5, .int x6, .int x7, .int y0]) (S := []) (z := (zS I2 J3 tg)) rfl c5 ?_
    refine Runs.sN 1 (c' := (151, [.ref 93, .int x1, .int x2, .int x3, .int x4, .int x5, .int x6, .int x7, .int y0], [.int x4], (zS I2 J3 tg))) rfl ?_
    by_cases c6 : x4 = 0
    · rw [if_pos c6] at h
      refine Runs.brT (P := x4 = 0) (a := 154) (b := 159) (L := [.ref 93, .int x1, .int x2, .int x3, .int x4, .int x5, .int x6, .int x7, .int y0]) (S := []) (z := (zS I2 J3 tg)) rfl c6 ?_
      refine Runs.sN 2 (c' := (232, [.ref 93, .int x1, .int x2, .int x3, .int x4, .int x5, .int x6, .int x7, .int y0], [.int x5], (zS I2 J3 tg))) rfl ?_
      exact h
    · rw [if_neg c6] at h
      refine Runs.brF (P := x4 = 0) (a := 154) (b := 159) (L := [.ref 93, .int x1, .int x2, .int x3, .int x4, .int x5, .int x6, .int x7, .int y0]) (S := []) (z := (zS I2 J3 tg)) rfl c6 ?_
      refine Runs.sN 2 (c' := (162, [.ref 93, .int x1, .int x2, .int x3, .int x4, .int x5, .int x6, .int x7, .int y0], [.int 1, .int x4], (zS I2 J3 tg))) rfl ?_
      by_cases c7 : x4 = 1
      · rw [if_pos c7] at h
        refine Runs.brT (P := x4 = 1) (a := 165) (b := 191) (L := [.ref 93, .int x1, .int x2, .int x3, .int x4, .int x5, .int x6, .int x7, .int y0]) (S := []) (z := (zS I2 J3 tg)) rfl c7 ?_
        refine Runs.sN 2 (c' := (169, [.ref 93, .int x1, .int x2, .int x3, .int x4, .int x5, .int x6, .int x7, .int y0], [.int 9, .int x7], (zS I2 J3 tg))) rfl ?_
        by_cases c8 : 9 ≤ x7
        · rw [if_pos c8] at h
          refine Runs.brT (P := 9 ≤ x7) (a := 176) (b := 172) (L := [.ref 93, .int x1, .int x2, .int x3, .int x4, .int x5, .int x6, .int x7, .int y0]) (S := []) (z := (zS I2 J3 tg)) rfl c8 ?_
          refine Runs.sN 2 (c' := (180, [.ref 93, .int x1, .int x2, .int x3, .int x4, .int x5, .int x6, .int x7, .int y0], [.int 13, .int x7], (zS I2 J3 tg))) rfl ?_
          by_cases c9 : 13 ≤ x7
          · rw [if_pos c9] at h
            refine Runs.brT (P := 13 ≤ x7) (a := 187) (b := 183) (L := [.ref 93, .int x1, .int x2, .int x3, .int x4, .int x5, .int x6, .int x7, .int y0]) (S := []) (z := (zS I2 J3 tg)) rfl c9 ?_
            refine Runs.sN 2 (c' := (232, [.ref 93, .int x1, .int x2, .int x3, .int x4, .int x5, .int x6, .int x7, .int y0], [.int 2], (zS I2 J3 tg))) rfl ?_
            exact h
          · rw [if_neg c9] at h
            refine Runs.brF (P := 13 ≤ x7) (a := 187) (b := 183) (L := [.ref 93, .int x1, .int x2, .int x3, .int x4, .int x5, .int x6, .int x7, .int y0]) (S := []) (z := (zS I2 J3 tg)) rfl c9 ?_
            refine Runs.sN 2 (c' := (232, [.ref 93, .int x1, .int x2, .int x3, .int x4, .int x5, .int x6, .int x7, .int y0], [.int 1], (zS I2 J3 tg))) rfl ?_
            exact h
        · rw [if_neg c8] at h
          refine Runs.brF (P := 9 ≤ x7) (a := 176) (b := 172) (L := [.ref 93, .int x1, .int x2, .int x3, .int x4, .int x5, .int x6, .int x7, .int y0]) (S := []) (z := (zS I2 J3 tg)) rfl c8 ?_
          refine Runs.sN 2 (c' := (232, [.ref 93, .int x1, .int x2, .int x3, .int x4, .int x5, .int x6, .int x7, .int y0], [.int 0], (zS I2 J3 tg))) rfl ?_
          exact h
      · rw [if_neg c7] at h
        refine Runs.brF (P := x4 = 1) (a := 165) (b := 191) (L := [.ref 93, .int x1, .int x2, .int x3, .int x4, .int x5, .int x6, .int x7, .int y0]) (S := []) (z := (zS I2 J3 tg)) rfl c7 ?_
        refine Runs.sN 2 (c' := (194, [.ref 93, .int x1, .int x2, .int x3, .int x4, .int x5, .int x6, .int x7, .int y0], [.int 3, .int x4], (zS I2 J3 tg))) rfl ?_
        by_cases c10 : x4 = 3
        · rw [if_pos c10] at h
          refine Runs.brT (P := x4 = 3) (a := 197) (b := 204) (L := [.ref 93, .int x1, .int x2, .int x3, .int x4, .int x5, .int x6, .int x7, .int y0]) (S := []) (z := (zS I2 J3 tg)) rfl c10 ?_
          refine Runs.sN 3 (c' := (232, [.ref 93, .int x1, .int x2, .int x3, .int x4, .int x5, .int x6, .int x7, .int y0], [.int (I2 93 39)], (zS I2 J3 tg))) rfl ?_
          exact h
        · rw [if_neg c10] at h
          refine Runs.brF (P := x4 = 3) (a := 197) (b := 204) (L := [.ref 93, .int x1, .int x2, .int x3, .int x4, .int x5, .int x6, .int x7, .int y0]) (S := []) (z := (zS I2 J3 tg)) rfl c10 ?_
          refine Runs.sN 2 (c' := (208, [.ref 93, .int x1, .int x2, .int x3, .int x4, .int x5, .int x6, .int x7, .int y0], [.int 9, .int x7], (zS I2 J3 tg))) rfl ?_
          by_cases c11 : 9 ≤ x7
          · rw [if_pos c11] at h
            refine Runs.brT (P := 9 ≤ x7) (a := 216) (b := 211) (L := [.ref 93, .int x1, .int x2, .int x3, .int x4, .int x5, .int x6, .int x7, .int y0]) (S := []) (z := (zS I2 J3 tg)) rfl c11 ?_
            refine Runs.sN 2 (c' := (220, [.ref 93, .int x1, .int x2, .int x3, .int x4, .int x5, .int x6, .int x7, .int y0], [.int 13, .int x7], (zS I2 J3 tg))) rfl ?_
            by_cases c12 : 13 ≤ x7
            · rw [if_pos c12] at h
              refine Runs.brT (P := 13 ≤ x7) (a := 231) (b := 223) (L := [.ref 93, .int x1, .int x2, .int x3, .int x4, .int x5, .int x6, .int x7, .int y0]) (S := []) (z := (zS I2 J3 tg)) rfl c12 ?_
              refine Runs.sN 1 (c' := (232, [.ref 93, .int x1, .int x2, .int x3, .int x4, .int x5, .int x6, .int x7, .int y0], [.int (-1)], (zS I2 J3 tg))) rfl ?_
              exact h
            · rw [if_neg c12] at h
              refine Runs.brF (P := 13 ≤ x7) (a := 231) (b := 223) (L := [.ref 93, .int x1, .int x2, .int x3, .int x4, .int x5, .int x6, .int x7, .int y0]) (S := []) (z := (zS I2 J3 tg)) rfl c12 ?_
              refine Runs.sN 4 (c' := (232, [.ref 93, .int x1, .int x2, .int x3, .int x4, .int x5, .int x6, .int x7, .int y0], [.int (x7 - 9)], (zS I2 J3 tg))) rfl ?_
              exact h
          · rw [if_neg c11] at h
            refine Runs.brF (P := 9 ≤ x7) (a := 216) (b := 211) (L := [.ref 93, .int x1, .int x2, .int x3, .int x4, .int x5, .int x6, .int x7, .int y0]) (S := []) (z := (zS I2 J3 tg)) rfl c11 ?_
            refine Runs.sN 2 (c' := (232, [.ref 93, .int x1, .int x2, .int x3, .int x4, .int x5, .int x6, .int x7, .int y0], [.int x7], (zS I2 J3 tg))) rfl ?_
            exact h
theorem sg_296_232 {L d : Nat} {xs : Nat → Int32} (I : Nat → Nat → Int32) (J : Nat → Nat → Int64) (tg : Option Nat) (x1 : Int32) (x2 : Int32) (x3 : Int32) (x4 : Int32) (x5 : Int32) (x6 : Int32) (x7 : Int32) (x8 : Int32) (y0 : Int32) {r : Option Value × SS} (h : (r = (some (.int y0), (zS I J tg)))) : Runs (GW L xs) (d + 1) 296 (232, [.ref 93, .int x1, .int x2, .int x3, .int x4, .int x5, .int x6, .int x7, .int x8], [.int y0], (zS I J tg)) r := by
  subst h
  exact Runs.rt rfl
-- X12_image 
theorem sg_297 {L d : Nat} {xs : Nat → Int32} (I : Nat → Nat → Int32) (J : Nat → Nat → Int64) (tg : Option Nat) {r : Option Value × SS} (h : (∃ (I3 : Nat → Nat → Int32) (J4 : Nat → Nat → Int64), Runs (GW L xs) d 176 (0, [.ref 94, .ref 95, vU], [], (zS I J tg)) (none, (zS I3 J4 tg)) ∧ r = (some (.int (I3 94 0)), (zS I3 J4 tg)))) : Runs (GW L xs) (d + 1) 297 (0, [.ref 93], [], (zS I J tg)) r := by
  refine Runs.sN 4 (c' := (8, [.ref 93], [.ref 95, .ref 94], (zS I J tg))) rfl ?_
  obtain ⟨I3, J4, c5, h⟩ := h
  refine Runs.cl (cm := 176) (as := [.ref 94, .ref 95]) (rest := []) (r1 := (none, (zS I3 J4 tg))) rfl (Nat.le_of_ble_eq_true rfl) c5 ?_
  refine Runs.as (c' := (11, [.ref 93], [], (zS I3 J4 tg))) rfl ?_
  refine Runs.sN 4 (c' := (17, [.ref 93], [.int (I3 94 0)], (zS I3 J4 tg))) rfl ?_
  subst h
  exact Runs.rt rfl
-- X12_back 
theorem sg_298 {L d : Nat} {xs : Nat → Int32} (I : Nat → Nat → Int32) (J : Nat → Nat → Int64) (tg : Option Nat) {r : Option Value × SS} (h : (∃ (I3 : Nat → Nat → Int32) (J4 : Nat → Nat → Int64), Runs (GW L xs) d 176 (0, [.ref 95, .ref 94, vU], [], (zS I J tg)) (none, (zS I3 J4 tg)) ∧ r = (some (.int (I3 94 0)), (zS I3 J4 tg)))) : Runs (GW L xs) (d + 1) 298 (0, [.ref 93], [], (zS I J tg)) r := by
  refine Runs.sN 4 (c' := (8, [.ref 93], [.ref 94, .ref 95], (zS I J tg))) rfl ?_
  obtain ⟨I3, J4, c5, h⟩ := h
  refine Runs.cl (cm := 176) (as := [.ref 95, .ref 94]) (rest := []) (r1 := (none, (zS I3 J4 tg))) rfl (Nat.le_of_ble_eq_true rfl) c5 ?_
  refine Runs.as (c' := (11, [.ref 93], [], (zS I3 J4 tg))) rfl ?_
  refine Runs.sN 4 (c' := (17, [.ref 93], [.int (I3 94 0)], (zS I3 J4 tg))) rfl ?_
  subst h
  exact Runs.rt rfl
-- J6_bitCount_0f7a4 
theorem sg_300 {L d : Nat} {xs : Nat → Int32} (I : Nat → Nat → Int32) (J : Nat → Nat → Int64) (tg : Option Nat) (a1 : Int32) {r : Option Value × SS} (h : (r = (some (.int ((((((((a1 - (((a1.toUInt32 >>> ((1 : Int32).toUInt32 &&& Int32.toUInt32 31)).toInt32) &&& 1431655765)) &&& 858993459) + ((((a1 - (((a1.toUInt32 >>> ((1 : Int32).toUInt32 &&& Int32.toUInt32 31)).toInt32) &&& 1431655765)).toUInt32 >>> ((2 : Int32).toUInt32 &&& Int32.toUInt32 31)).toInt32) &&& 858993459)) + (((((a1 - (((a1.toUInt32 >>> ((1 : Int32).toUInt32 &&& Int32.toUInt32 31)).toInt32) &&& 1431655765)) &&& 858993459) + ((((a1 - (((a1.toUInt32 >>> ((1 : Int32).toUInt32 &&& Int32.toUInt32 31)).toInt32) &&& 1431655765)).toUInt32 >>> ((2 : Int32).toUInt32 &&& Int32.toUInt32 31)).toInt32) &&& 858993459)).toUInt32 >>> ((4 : Int32).toUInt32 &&& Int32.toUInt32 31)).toInt32)) &&& 252645135) + (((((((a1 - (((a1.toUInt32 >>> ((1 : Int32).toUInt32 &&& Int32.toUInt32 31)).toInt32) &&& 1431655765)) &&& 858993459) + ((((a1 - (((a1.toUInt32 >>> ((1 : Int32).toUInt32 &&& Int32.toUInt32 31)).toInt32) &&& 1431655765)).toUInt32 >>> ((2 : Int32).toUInt32 &&& Int32.toUInt32 31)).toInt32) &&& 858993459)) + (((((a1 - (((a1.toUInt32 >>> ((1 : Int32).toUInt32 &&& Int32.toUInt32 31)).toInt32) &&& 1431655765)) &&& 858993459) + ((((a1 - (((a1.toUInt32 >>> ((1 : Int32).toUInt32 &&& Int32.toUInt32 31)).toInt32) &&& 1431655765)).toUInt32 >>> ((2 : Int32).toUInt32 &&& Int32.toUInt32 31)).toInt32) &&& 858993459)).toUInt32 >>> ((4 : Int32).toUInt32 &&& Int32.toUInt32 31)).toInt32)) &&& 252645135).toUInt32 >>> ((8 : Int32).toUInt32 &&& Int32.toUInt32 31)).toInt32)) + ((((((((a1 - (((a1.toUInt32 >>> ((1 : Int32).toUInt32 &&& Int32.toUInt32 31)).toInt32) &&& 1431655765)) &&& 858993459) + ((((a1 - (((a1.toUInt32 >>> ((1 : Int32).toUInt32 &&& Int32.toUInt32 31)).toInt32) &&& 1431655765)).toUInt32 >>> ((2 : Int32).toUInt32 &&& Int32.toUInt32 31)).toInt32) &&& 858993459)) + (((((a1 - (((a1.toUInt32 >>> ((1 : Int32).toUInt32 &&& Int32.toUInt32 31)).toInt32) &&& 1431655765)) &&& 858993459) + ((((a1 - (((a1.toUInt32 >>> ((1 : Int32).toUInt32 &&& Int32.toUInt32 31)).toInt32) &&& 1431655765)).toUInt32 >>> ((2 : Int32).toUInt32 &&& Int32.toUInt32 31)).toInt32) &&& 858993459)).toUInt32 >>> ((4 : Int32).toUInt32 &&& Int32.toUInt32 31)).toInt32)) &&& 252645135) + (((((((a1 - (((a1.toUInt32 >>> ((1 : Int32).toUInt32 &&& Int32.toUInt32 31)).toInt32) &&& 1431655765)) &&& 858993459) + ((((a1 - (((a1.toUInt32 >>> ((1 : Int32).toUInt32 &&& Int32.toUInt32 31)).toInt32) &&& 1431655765)).toUInt32 >>> ((2 : Int32).toUInt32 &&& Int32.toUInt32 31)).toInt32) &&& 858993459)) + (((((a1 - (((a1.toUInt32 >>> ((1 : Int32).toUInt32 &&& Int32.toUInt32 31)).toInt32) &&& 1431655765)) &&& 858993459) + ((((a1 - (((a1.toUInt32 >>> ((1 : Int32).toUInt32 &&& Int32.toUInt32 31)).toInt32) &&& 1431655765)).toUInt32 >>> ((2 : Int32).toUInt32 &&& Int32.toUInt32 31)).toInt32) &&& 858993459)).toUInt32 >>> ((4 : Int32).toUInt32 &&& Int32.toUInt32 31)).toInt32)) &&& 252645135).toUInt32 >>> ((8 : Int32).toUInt32 &&& Int32.toUInt32 31)).toInt32)).toUInt32 >>> ((16 : Int32).toUInt32 &&& Int32.toUInt32 31)).toInt32)) &&& 63)), (zS I J tg)))) : Runs (GW L xs) d 300 (0, [.int a1], [], (zS I J tg)) r := by
  refine Runs.sN 41 (c' := (52, [.int (((((((a1 - (((a1.toUInt32 >>> ((1 : Int32).toUInt32 &&& Int32.toUInt32 31)).toInt32) &&& 1431655765)) &&& 858993459) + ((((a1 - (((a1.toUInt32 >>> ((1 : Int32).toUInt32 &&& Int32.toUInt32 31)).toInt32) &&& 1431655765)).toUInt32 >>> ((2 : Int32).toUInt32 &&& Int32.toUInt32 31)).toInt32) &&& 858993459)) + (((((a1 - (((a1.toUInt32 >>> ((1 : Int32).toUInt32 &&& Int32.toUInt32 31)).toInt32) &&& 1431655765)) &&& 858993459) + ((((a1 - (((a1.toUInt32 >>> ((1 : Int32).toUInt32 &&& Int32.toUInt32 31)).toInt32) &&& 1431655765)).toUInt32 >>> ((2 : Int32).toUInt32 &&& Int32.toUInt32 31)).toInt32) &&& 858993459)).toUInt32 >>> ((4 : Int32).toUInt32 &&& Int32.toUInt32 31)).toInt32)) &&& 252645135) + (((((((a1 - (((a1.toUInt32 >>> ((1 : Int32).toUInt32 &&& Int32.toUInt32 31)).toInt32) &&& 1431655765)) &&& 858993459) + ((((a1 - (((a1.toUInt32 >>> ((1 : Int32).toUInt32 &&& Int32.toUInt32 31)).toInt32) &&& 1431655765)).toUInt32 >>> ((2 : Int32).toUInt32 &&& Int32.toUInt32 31)).toInt32) &&& 858993459)) + (((((a1 - (((a1.toUInt32 >>> ((1 : Int32).toUInt32 &&& Int32.toUInt32 31)).toInt32) &&& 1431655765)) &&& 858993459) + ((((a1 - (((a1.toUInt32 >>> ((1 : Int32).toUInt32 &&& Int32.toUInt32 31)).toInt32) &&& 1431655765)).toUInt32 >>> ((2 : Int32).toUInt32 &&& Int32.toUInt32 31)).toInt32) &&& 858993459)).toUInt32 >>> ((4 : Int32).toUInt32 &&& Int32.toUInt32 31)).toInt32)) &&& 252645135).toUInt32 >>> ((8 : Int32).toUInt32 &&& Int32.toUInt32 31)).toInt32)) + ((((((((a1 - (((a1.toUInt32 >>> ((1 : Int32).toUInt32 &&& Int32.toUInt32 31)).toInt32) &&& 1431655765)) &&& 858993459) + ((((a1 - (((a1.toUInt32 >>> ((1 : Int32).toUInt32 &&& Int32.toUInt32 31)).toInt32) &&& 1431655765)).toUInt32 >>> ((2 : Int32).toUInt32 &&& Int32.toUInt32 31)).toInt32) &&& 858993459)) + (((((a1 - (((a1.toUInt32 >>> ((1 : Int32).toUInt32 &&& Int32.toUInt32 31)).toInt32) &&& 1431655765)) &&& 858993459) + ((((a1 - (((a1.toUInt32 >>> ((1 : Int32).toUInt32 &&& Int32.toUInt32 31)).toInt32) &&& 1431655765)).toUInt32 >>> ((2 : Int32).toUInt32 &&& Int32.toUInt32 31)).toInt32) &&& 858993459)).toUInt32 >>> ((4 : Int32).toUInt32 &&& Int32.toUInt32 31)).toInt32)) &&& 252645135) + (((((((a1 - (((a1.toUInt32 >>> ((1 : Int32).toUInt32 &&& Int32.toUInt32 31)).toInt32) &&& 1431655765)) &&& 858993459) + ((((a1 - (((a1.toUInt32 >>> ((1 : Int32).toUInt32 &&& Int32.toUInt32 31)).toInt32) &&& 1431655765)).toUInt32 >>> ((2 : Int32).toUInt32 &&& Int32.toUInt32 31)).toInt32) &&& 858993459)) + (((((a1 - (((a1.toUInt32 >>> ((1 : Int32).toUInt32 &&& Int32.toUInt32 31)).toInt32) &&& 1431655765)) &&& 858993459) + ((((a1 - (((a1.toUInt32 >>> ((1 : Int32).toUInt32 &&& Int32.toUInt32 31)).toInt32) &&& 1431655765)).toUInt32 >>> ((2 : Int32).toUInt32 &&& Int32.toUInt32 31)).toInt32) &&& 858993459)).toUInt32 >>> ((4 : Int32).toUInt32 &&& Int32.toUInt32 31)).toInt32)) &&& 252645135).toUInt32 >>> ((8 : Int32).toUInt32 &&& Int32.toUInt32 31)).toInt32)).toUInt32 >>> ((16 : Int32).toUInt32 &&& Int32.toUInt32 31)).toInt32))], [.int ((((((((a1 - (((a1.toUInt32 >>> ((1 : Int32).toUInt32 &&& Int32.toUInt32 31)).toInt32) &&& 1431655765)) &&& 858993459) + ((((a1 - (((a1.toUInt32 >>> ((1 : Int32).toUInt32 &&& Int32.toUInt32 31)).toInt32) &&& 1431655765)).toUInt32 >>> ((2 : Int32).toUInt32 &&& Int32.toUInt32 31)).toInt32) &&& 858993459)) + (((((a1 - (((a1.toUInt32 >>> ((1 : Int32).toUInt32 &&& Int32.toUInt32 31)).toInt32) &&& 1431655765)) &&& 858993459) + ((((a1 - (((a1.toUInt32 >>> ((1 : Int32).toUInt32 &&& Int32.toUInt32 31)).toInt32) &&& 1431655765)).toUInt32 >>> ((2 : Int32).toUInt32 &&& Int32.toUInt32 31)).toInt32) &&& 858993459)).toUInt32 >>> ((4 : Int32).toUInt32 &&& Int32.toUInt32 31)).toInt32)) &&& 252645135) + (((((((a1 - (((a1.toUInt32 >>> ((1 : Int32).toUInt32 &&& Int32.toUInt32 31)).toInt32) &&& 1431655765)) &&& 858993459) + ((((a1 - (((a1.toUInt32 >>> ((1 : Int32).toUInt32 &&& Int32.toUInt32 31)).toInt32) &&& 1431655765)).toUInt32 >>> ((2 : Int32).toUInt32 &&& Int32.toUInt32 31)).toInt32) &&& 858993459)) + (((((a1 - (((a1.toUInt32 >>> ((1 : Int32).toUInt32 &&& Int32.toUInt32 31)).toInt32) &&& 1431655765)) &&& 858993459) + ((((a1 - (((a1.toUInt32 >>> ((1 : Int32).toUInt32 &&& Int32.toUInt32 31)).toInt32) &&& 1431655765)).toUInt32 >>> ((2 : Int32).toUInt32 &&& Int32.toUInt32 31)).toInt32) &&& 858993459)).toUInt32 >>> ((4 : Int32).toUInt32 &&& Int32.toUInt32 31)).toInt32)) &&& 252645135).toUInt32 >>> ((8 : Int32).toUInt32 &&& Int32.toUInt32 31)).toInt32)) + ((((((((a1 - (((a1.toUInt32 >>> ((1 : Int32).toUInt32 &&& Int32.toUInt32 31)).toInt32) &&& 1431655765)) &&& 858993459) + ((((a1 - (((a1.toUInt32 >>> ((1 : Int32).toUInt32 &&& Int32.toUInt32 31)).toInt32) &&& 1431655765)).toUInt32 >>> ((2 : Int32).toUInt32 &&& Int32.toUInt32 31)).toInt32) &&& 858993459)) + (((((a1 - (((a1.toUInt32 >>> ((1 : Int32).toUInt32 &&& Int32.toUInt32 31)).toInt32) &&& 1431655765)) &&& 858993459) + ((((a1 - (((a1.toUInt32 >>> ((1 : Int32).toUInt32 &&& Int32.toUInt32 31)).toInt32) &&& 1431655765)).toUInt32 >>> ((2 : Int32).toUInt32 &&& Int32.toUInt32 31)).toInt32) &&& 858993459)).toUInt32 >>> ((4 : Int32).toUInt32 &&& Int32.toUInt32 31)).toInt32)) &&& 252645135) + (((((((a1 - (((a1.toUInt32 >>> ((1 : Int32).toUInt32 &&& Int32.toUInt32 31)).toInt32) &&& 1431655765)) &&& 858993459) + ((((a1 - (((a1.toUInt32 >>> ((1 : Int32).toUInt32 &&& Int32.toUInt32 31)).toInt32) &&& 1431655765)).toUInt32 >>> ((2 : Int32).toUInt32 &&& Int32.toUInt32 31)).toInt32) &&& 858993459)) + (((((a1 - (((a1.toUInt32 >>> ((1 : Int32).toUInt32 &&& Int32.toUInt32 31)).toInt32) &&& 1431655765)) &&& 858993459) + ((((a1 - (((a1.toUInt32 >>> ((1 : Int32).toUInt32 &&& Int32.toUInt32 31)).toInt32) &&& 1431655765)).toUInt32 >>> ((2 : Int32).toUInt32 &&& Int32.toUInt32 31)).toInt32) &&& 858993459)).toUInt32 >>> ((4 : Int32).toUInt32 &&& Int32.toUInt32 31)).toInt32)) &&& 252645135).toUInt32 >>> ((8 : Int32).toUInt32 &&& Int32.toUInt32 31)).toInt32)).toUInt32 >>> ((16 : Int32).toUInt32 &&& Int32.toUInt32 31)).toInt32)) &&& 63)], (zS I J tg))) rfl ?_
  subst h
  exact Runs.rt rfl
