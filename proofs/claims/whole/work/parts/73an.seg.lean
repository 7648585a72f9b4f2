-- X12_either 
theorem sg_229 {L d : Nat} {xs : Nat → Int32} (I : Nat → Nat → Int32) (J : Nat → Nat → Int64) (tg : Option Nat) {r : Option Value × SS} (h : (Runs (GW L xs) (d + 1) 229 (7, [.ref 93, .int 1, vU, vU, vU], [], (zS (up2 I 93 10 0) J tg)) r)) : Runs (GW L xs) (d + 1) 229 (0, [.ref 93, vU, vU, vU, vU], [], (zS I J tg)) r := by
  refine Runs.sN 5 (c' := (7, [.ref 93, .int 1, vU, vU, vU], [], (zS (up2 I 93 10 0) J tg))) rfl ?_
  exact h
theorem sg_229_7 {L d : Nat} {xs : Nat → Int32} (I : Nat → Nat → Int32) (J : Nat → Nat → Int64) (tg : Option Nat) (x1 : Int32) {r : Option Value × SS} (h : ((if x1 = 0 then (∃ (I1 : Nat → Nat → Int32) (J2 : Nat → Nat → Int64), Runs (GW L xs) d 228 (0, [.ref 93, .int 1], [], (zS I J tg)) (none, (zS I1 J2 tg)) ∧ (if (I1 93 10) ≤ 0 then (r = (some (.int 0), (zS I1 J2 tg))) else (r = (some (.int 1), (zS I1 J2 tg))))) else (∃ (v3 : Int32) (I4 : Nat → Nat → Int32) (J5 : Nat → Nat → Int64), Runs (GW L xs) d 227 (0, [.ref 93, vU, vU], [], (zS I J tg)) ((some (.int v3)), (zS I4 J5 tg)) ∧ (if v3 = 0 then ((if (I4 93 15) = 41 then (Runs (GW L xs) (d + 1) 229 (36, [.ref 93, .int x1, .int v3, vU, vU], [.int 1], (zS I4 J5 tg)) r) else (Runs (GW L xs) (d + 1) 229 (36, [.ref 93, .int x1, .int v3, vU, vU], [.int 0], (zS I4 J5 tg)) r))) else (r = (some (.int v3), (zS I4 J5 tg)))))))) : Runs (GW L xs) (d + 1) 229 (7, [.ref 93, .int x1, vU, vU, vU], [], (zS I J tg)) r := by
  refine Runs.sN 1 (c' := (8, [.ref 93, .int x1, vU, vU, vU], [.int x1], (zS I J tg))) rfl ?_
  by_cases c6 : x1 = 0
  · rw [if_pos c6] at h
    refine Runs.brT (P := x1 = 0) (a := 199) (b := 11) (L := [.ref 93, .int x1, vU, vU, vU]) (S := []) (z := (zS I J tg)) rfl c6 ?_
    refine Runs.sN 2 (c' := (201, [.ref 93, .int x1, vU, vU, vU], [.int 1, .ref 93], (zS I J tg))) rfl ?_
    obtain ⟨I1, J2, c7, h⟩ := h
    refine Runs.cl (cm := 228) (as := [.ref 93, .int 1]) (rest := []) (r1 := (none, (zS I1 J2 tg))) rfl (Nat.le_of_ble_eq_true rfl) c7 ?_
    refine Runs.as (c' := (204, [.ref 93, .int x1, vU, vU, vU], [], (zS I1 J2 tg))) rfl ?_
    refine Runs.sN 2 (c' := (208, [.ref 93, .int x1, vU, vU, vU], [.int (I1 93 10)], (zS I1 J2 tg))) rfl ?_
    by_cases c8 : (I1 93 10) ≤ 0
    · rw [if_pos c8] at h
      refine Runs.brT (P := (I1 93 10) ≤ 0) (a := 215) (b := 211) (L := [.ref 93, .int x1, vU, vU, vU]) (S := []) (z := (zS I1 J2 tg)) rfl c8 ?_
      refine Runs.sN 1 (c' := (216, [.ref 93, .int x1, vU, vU, vU], [.int 0], (zS I1 J2 tg))) rfl ?_
      subst h
      exact Runs.rt rfl
    · rw [if_neg c8] at h
      refine Runs.brF (P := (I1 93 10) ≤ 0) (a := 215) (b := 211) (L := [.ref 93, .int x1, vU, vU, vU]) (S := []) (z := (zS I1 J2 tg)) rfl c8 ?_
      refine Runs.sN 2 (c' := (216, [.ref 93, .int x1, vU, vU, vU], [.int 1], (zS I1 J2 tg))) rfl ?_
      subst h
      exact Runs.rt rfl
  · rw [if_neg c6] at h
    refine Runs.brF (P := x1 = 0) (a := 199) (b := 11) (L := [.ref 93, .int x1, vU, vU, vU]) (S := []) (z := (zS I J tg)) rfl c6 ?_
    refine Runs.sN 1 (c' := (12, [.ref 93, .int x1, vU, vU, vU], [.ref 93], (zS I J tg))) rfl ?_
    obtain ⟨v3, I4, J5, c9, h⟩ := h
    refine Runs.cl (cm := 227) (as := [.ref 93]) (rest := []) (r1 := ((some (.int v3)), (zS I4 J5 tg))) rfl (Nat.le_of_ble_eq_true rfl) c9 ?_
    refine Runs.as (c' := (15, [.ref 93, .int x1, vU, vU, vU], [.int v3], (zS I4 J5 tg))) rfl ?_
    refine Runs.sN 2 (c' := (17, [.ref 93, .int x1, .int v3, vU, vU], [.int v3], (zS I4 J5 tg))) rfl ?_
    by_cases c10 : v3 = 0
    · rw [if_pos c10] at h
      refine Runs.brT (P := v3 = 0) (a := 22) (b := 20) (L := [.ref 93, .int x1, .int v3, vU, vU]) (S := []) (z := (zS I4 J5 tg)) rfl c10 ?_
      refine Runs.sN 3 (c' := (28, [.ref 93, .int x1, .int v3, vU, vU], [.int 41, .int (I4 93 15)], (zS I4 J5 tg))) rfl ?_
      by_cases c11 : (I4 93 15) = 41
      · rw [if_pos c11] at h
        refine Runs.brT (P := (I4 93 15) = 41) (a := 31) (b := 35) (L := [.ref 93, .int x1, .int v3, vU, vU]) (S := []) (z := (zS I4 J5 tg)) rfl c11 ?_
        refine Runs.sN 2 (c' := (36, [.ref 93, .int x1, .int v3, vU, vU], [.int 1], (zS I4 J5 tg))) rfl ?_
        exact h
      · rw [if_neg c11] at h
        refine Runs.brF (P := (I4 93 15) = 41) (a := 31) (b := 35) (L := [.ref 93, .int x1, .int v3, vU, vU]) (S := []) (z := (zS I4 J5 tg)) rfl c11 ?_
        refine Runs.sN 1 (c' := (36, [.ref 93, .int x1, .int v3, vU, vU], [.int 0], (zS I4 J5 tg))) rfl ?_
        exact h
    · rw [if_neg c10] at h
      refine Runs.brF (P := v3 = 0) (a := 22) (b := 20) (L := [.ref 93, .int x1, .int v3, vU, vU]) (S := []) (z := (zS I4 J5 tg)) rfl c10 ?_
      refine Runs.sN 1 (c' := (21, [.ref 93, .int x1, .int v3, vU, vU], [.int v3], (zS I4 J5 tg))) rfl ?_
      subst h
      exact Runs.rt rfl
theorem sg_229_36 {L d : Nat} {xs : Nat → Int32} (I : Nat → Nat → Int32) (J : Nat → Nat → Int64) (tg : Option Nat) (x1 : Int32) (x2 : Int32) (y0 : Int32) {r : Option Value × SS} (h : (Runs (GW L xs) (d + 1) 229 (37, [.ref 93, .int x1, .int x2, .int y0, vU], [], (zS I J tg)) r)) : Runs (GW L xs) (d + 1) 229 (36, [.ref 93, .int x1, .int x2, vU, vU], [.int y0], (zS I J tg)) r := by
  refine Runs.sN 1 (c' := (37, [.ref 93, .int x1, .int x2, .int y0, vU], [], (zS I J tg))) rfl ?_
  exact h
theorem sg_229_37 {L d : Nat} {xs : Nat → Int32} (I : Nat → Nat → Int32) (J : Nat → Nat → Int64) (tg : Option Nat) (x1 : Int32) (x2 : Int32) (x3 : Int32) {r : Option Value × SS} (h : ((if x3 = 0 then (∃ (v1 : Int64) (I2 : Nat → Nat → Int32) (J3 : Nat → Nat → Int64), Runs (GW L xs) d 214 (0, [.int 97, .int 110, .int 100], [], (zS I J tg)) ((some (.long v1)), (zS I2 J3 tg)) ∧ ∃ (v4 : Int32) (I5 : Nat → Nat → Int32) (J6 : Nat → Nat → Int64), Runs (GW L xs) d 218 (0, [.ref 93, .long v1, vU], [], (zS I2 J3 tg)) ((some (.int v4)), (zS I5 J6 tg)) ∧ (if v4 = 0 then (∃ (v7 : Int32) (I8 : Nat → Nat → Int32) (J9 : Nat → Nat → Int64), Runs (GW L xs) d 218 (0, [.ref 93, .long 28530, vU], [], (zS I5 J6 tg)) ((some (.int v7)), (zS I8 J9 tg)) ∧ (if v7 = 0 then (Runs (GW L xs) (d + 1) 229 (142, [.ref 93, .int x1, .int x2, .int x3, .int v4], [.int 0], (zS I8 J9 tg)) r) else (Runs (GW L xs) (d + 1) 229 (137, [.ref 93, .int x1, .int x2, .int x3, .int v4], [], (zS I8 J9 tg)) r))) else (Runs (GW L xs) (d + 1) 229 (137, [.ref 93, .int x1, .int x2, .int x3, .int v4], [], (zS I5 J6 tg)) r))) else (∃ (I10 : Nat → Nat → Int32) (J11 : Nat → Nat → Int64), Runs (GW L xs) d 228 (0, [.ref 93, .int 1], [], (zS I J tg)) (none, (zS I10 J11 tg)) ∧ (if (I10 93 10) ≤ 0 then (Runs (GW L xs) (d + 1) 229 (58, [.ref 93, .int x1, .int x2, .int x3, vU], [.int 0], (zS I10 J11 tg)) r) else (Runs (GW L xs) (d + 1) 229 (58, [.ref 93, .int x1, .int x2, .int x3, vU], [.int 1], (zS I10 J11 tg)) r)))))) : Runs (GW L xs) (d + 1) 229 (37, [.ref 93, .int x1, .int x2, .int x3, vU], [], (zS I J tg)) r := by
  refine Runs.sN 1 (c' := (38, [.ref 93, .int x1, .int x2, .int x3, vU], [.int x3], (zS I J tg))) rfl ?_
  by_cases c12 : x3 = 0
  · rw [if_pos c12] at h
    refine Runs.brT (P := x3 = 0) (a := 107) (b := 41) (L := [.ref 93, .int x1, .int x2, .int x3, vU]) (S := []) (z := (zS I J tg)) rfl c12 ?_
    refine Runs.sN 4 (c' := (114, [.ref 93, .int x1, .int x2, .int x3, vU], [.int 100, .int 110, .int 97, .ref 93], (zS I J tg))) rfl ?_
    obtain ⟨v1, I2, J3, c13, h⟩ := h
    refine Runs.cl (cm := 214) (as := [.int 97, .int 110, .int 100]) (rest := [.ref 93]) (r1 := ((some (.long v1)), (zS I2 J3 tg))) rfl (Nat.le_of_ble_eq_true rfl) c13 ?_
    refine Runs.as (c' := (117, [.ref 93, .int x1, .int x2, .int x3, vU], [.long v1, .ref 93], (zS I2 J3 tg))) rfl ?_
    obtain ⟨v4, I5, J6, c14, h⟩ := h
    refine Runs.cl (cm := 218) (as := [.ref 93, .long v1]) (rest := []) (r1 := ((some (.int v4)), (zS I5 J6 tg))) rfl (Nat.le_of_ble_eq_true rfl) c14 ?_
    refine Runs.as (c' := (120, [.ref 93, .int x1, .int x2, .int x3, vU], [.int v4], (zS I5 J6 tg))) rfl ?_
    refine Runs.sN 2 (c' := (124, [.ref 93, .int x1, .int x2, .int x3, .int v4], [.int v4], (zS I5 J6 tg))) rfl ?_
    by_cases c15 : v4 = 0
    · rw [if_pos c15] at h
      refine Runs.brT (P := v4 = 0) (a := 127) (b := 137) (L := [.ref 93, .int x1, .int x2, .int x3, .int v4]) (S := []) (z := (zS I5 J6 tg)) rfl c15 ?_
      refine Runs.sN 2 (c' := (131, [.ref 93, .int x1, .int x2, .int x3, .int v4], [.long 28530, .ref 93], (zS I5 J6 tg))) rfl ?_
      obtain ⟨v7, I8, J9, c16, h⟩ := h
      refine Runs.cl (cm := 218) (as := [.ref 93, .long 28530]) (rest := []) (r1 := ((some (.int v7)), (zS I8 J9 tg))) rfl (Nat.le_of_ble_eq_true rfl) c16 ?_
      refine Runs.as (c' := (134, [.ref 93, .int x1, .int x2, .int x3, .int v4], [.int v7], (zS I8 J9 tg))) rfl ?_
      by_cases c17 : v7 = 0
      · rw [if_pos c17] at h
        refine Runs.brT (P := v7 = 0) (a := 141) (b := 137) (L := [.ref 93, .int x1, .int x2, .int x3, .int v4]) (S := []) (z := (zS I8 J9 tg)) rfl c17 ?_
        refine Runs.sN 1 (c' := (142, [.ref 93, .int x1, .int x2, .int x3, .int v4], [.int 0], (zS I8 J9 tg))) rfl ?_
        exact h
      · rw [if_neg c17] at h
        refine Runs.brF (P := v7 = 0) (a := 141) (b := 137) (L := [.ref 93, .int x1, .int x2, .int x3, .int v4]) (S := []) (z := (zS I8 J9 tg)) rfl c17 ?_
        exact h
    · rw [if_neg c15] at h
      refine Runs.brF (P := v4 = 0) (a := 127) (b := 137) (L := [.ref 93, .int x1, .int x2, .int x3, .int v4]) (S := []) (z := (zS I5 J6 tg)) rfl c15 ?_
      exact h
  · rw [if_neg c12] at h
    refine Runs.brF (P := x3 = 0) (a := 107) (b := 41) (L := [.ref 93, .int x1, .int x2, .int x3, vU]) (S := []) (z := (zS I J tg)) rfl c12 ?_
    refine Runs.sN 2 (c' := (43, [.ref 93, .int x1, .int x2, .int x3, vU], [.int 1, .ref 93], (zS I J tg))) rfl ?_
    obtain ⟨I10, J11, c18, h⟩ := h
    refine Runs.cl (cm := 228) (as := [.ref 93, .int 1]) (rest := []) (r1 := (none, (zS I10 J11 tg))) rfl (Nat.le_of_ble_eq_true rfl) c18 ?_
    refine Runs.as (c' := (46, [.ref 93, .int x1, .int x2, .int x3, vU], [], (zS I10 J11 tg))) rfl ?_
    refine Runs.sN 2 (c' := (50, [.ref 93, .int x1, .int x2, .int x3, vU], [.int (I10 93 10)], (zS I10 J11 tg))) rfl ?_
    by_cases c19 : (I10 93 10) ≤ 0
    · rw [if_pos c19] at h
      refine Runs.brT (P := (I10 93 10) ≤ 0) (a := 57) (b := 53) (L := [.ref 93, .int x1, .int x2, .int x3, vU]) (S := []) (z := (zS I10 J11 tg)) rfl c19 ?_
      refine Runs.sN 1 (c' := (58, [.ref 93, .int x1, .int x2, .int x3, vU], [.int 0], (zS I10 J11 tg))) rfl ?_
      exact h
    · rw [if_neg c19] at h
      refine Runs.brF (P := (I10 93 10) ≤ 0) (a := 57) (b := 53) (L := [.ref 93, .int x1, .int x2, .int x3, vU]) (S := []) (z := (zS I10 J11 tg)) rfl c19 ?_
      refine Runs.sN 2 (c' := (58, [.ref 93, .int x1, .int x2, .int x3, vU], [.int 1], (zS I10 J11 tg))) rfl ?_
      exact h
theorem sg_229_58 {L d : Nat} {xs : Nat → Int32} (I : Nat → Nat → Int32) (J : Nat → Nat → Int64) (tg : Option Nat) (x1 : Int32) (x2 : Int32) (x3 : Int32) (y0 : Int32) {r : Option Value × SS} (h : ((if y0 = 0 then (r = (some (.int 1), (zS I J tg))) else (∃ (I1 : Nat → Nat → Int32) (J2 : Nat → Nat → Int64), Runs (GW L xs) d 213 (0, [.ref 93, vU, vU], [], (zS (up2 (up2 I 93 10 ((I 93 10) - 1)) 93 24 ((I 93 24) - 1)) J tg)) (none, (zS I1 J2 tg)) ∧ (if (I1 93 15) = 41 then (Runs (GW L xs) (d + 1) 229 (103, [.ref 93, .int x1, .int x2, .int y0, vU], [.int 1], (zS I1 J2 tg)) r) else (Runs (GW L xs) (d + 1) 229 (103, [.ref 93, .int x1, .int x2, .int y0, vU], [.int 0], (zS I1 J2 tg)) r)))))) : Runs (GW L xs) (d + 1) 229 (58, [.ref 93, .int x1, .int x2, .int x3, vU], [.int y0], (zS I J tg)) r := by
  refine Runs.sN 2 (c' := (60, [.ref 93, .int x1, .int x2, .int y0, vU], [.int y0], (zS I J tg))) rfl ?_
  by_cases c3 : y0 = 0
  · rw [if_pos c3] at h
    refine Runs.brT (P := y0 = 0) (a := 63) (b := 65) (L := [.ref 93, .int x1, .int x2, .int y0, vU]) (S := []) (z := (zS I J tg)) rfl c3 ?_
    refine Runs.sN 1 (c' := (64, [.ref 93, .int x1, .int x2, .int y0, vU], [.int 1], (zS I J tg))) rfl ?_
    subst h
    exact Runs.rt rfl
  · rw [if_neg c3] at h
    refine Runs.brF (P := y0 = 0) (a := 63) (b := 65) (L := [.ref 93, .int x1, .int x2, .int y0, vU]) (S := []) (z := (zS I J tg)) rfl c3 ?_
    refine Runs.sN 13 (c' := (86, [.ref 93, .int x1, .int x2, .int y0, vU], [.ref 93], (zS (up2 (up2 I 93 10 ((I 93 10) - 1)) 93 24 ((I 93 24) - 1)) J tg))) rfl ?_
    obtain ⟨I1, J2, c4, h⟩ := h
    refine Runs.cl (cm := 213) (as := [.ref 93]) (rest := []) (r1 := (none, (zS I1 J2 tg))) rfl (Nat.le_of_ble_eq_true rfl) c4 ?_
    refine Runs.as (c' := (89, [.ref 93, .int x1, .int x2, .int y0, vU], [], (zS I1 J2 tg))) rfl ?_
    refine Runs.sN 3 (c' := (95, [.ref 93, .int x1, .int x2, .int y0, vU], [.int 41, .int (I1 93 15)], (zS I1 J2 tg))) rfl ?_
    by_cases c5 : (I1 93 15) = 41
    · rw [if_pos c5] at h
      refine Runs.brT (P := (I1 93 15) = 41) (a := 98) (b := 102) (L := [.ref 93, .int x1, .int x2, .int y0, vU]) (S := []) (z := (zS I1 J2 tg)) rfl c5 ?_
      refine Runs.sN 2 (c' := (103, [.ref 93, .int x1, .int x2, .int y0, vU], [.int 1], (zS I1 J2 tg))) rfl ?_
      exact h
    · rw [if_neg c5] at h
      refine Runs.brF (P := (I1 93 15) = 41) (a := 98) (b := 102) (L := [.ref 93, .int x1, .int x2, .int y0, vU]) (S := []) (z := (zS I1 J2 tg)) rfl c5 ?_
      refine Runs.sN 1 (c' := (103, [.ref 93, .int x1, .int x2, .int y0, vU], [.int 0], (zS I1 J2 tg))) rfl ?_
      exact h
theorem sg_229_103 {L d : Nat} {xs : Nat → Int32} (I : Nat → Nat → Int32) (J : Nat → Nat → Int64) (tg : Option Nat) (x1 : Int32) (x2 : Int32) (x3 : Int32) (y0 : Int32) {r : Option Value × SS} (h : (Runs (GW L xs) (d + 1) 229 (37, [.ref 93, .int x1, .int x2, .int y0, vU], [], (zS I J tg)) r)) : Runs (GW L xs) (d + 1) 229 (103, [.ref 93, .int x1, .int x2, .int x3, vU], [.int y0], (zS I J tg)) r := by
  refine Runs.sN 2 (c' := (37, [.ref 93, .int x1, .int x2, .int y0, vU], [], (zS I J tg))) rfl ?_
  exact h
theorem sg_229_137 {L d : Nat} {xs : Nat → Int32} (I : Nat → Nat → Int32) (J : Nat → Nat → Int64) (tg : Option Nat) (x1 : Int32) (x2 : Int32) (x3 : Int32) (x4 : Int32) {r : Option Value × SS} (h : (Runs (GW L xs) (d + 1) 229 (142, [.ref 93, .int x1, .int x2, .int x3, .int x4], [.int 1], (zS I J tg)) r)) : Runs (GW L xs) (d + 1) 229 (137, [.ref 93, .int x1, .int x2, .int x3, .int x4], [], (zS I J tg)) r := by
  refine Runs.sN 2 (c' := (142, [.ref 93, .int x1, .int x2, .int x3, .int x4], [.int 1], (zS I J tg))) rfl ?_
  exact h
theorem sg_229_142 {L d : Nat} {xs : Nat → Int32} (I : Nat → Nat → Int32) (J : Nat → Nat → Int64) (tg : Option Nat) (x1 : Int32) (x2 : Int32) (x3 : Int32) (x4 : Int32) (y0 : Int32) {r : Option Value × SS} (h : ((if y0 = 0 then (Runs (GW L xs) (d + 1) 229 (196, [.ref 93, .int y0, .int x2, .int x3, .int x4], [], (zS I J tg)) r) else ((if x4 = 0 then (Runs (GW L xs) (d + 1) 229 (158, [.ref 93, .int y0, .int x2, .int x3, .int x4], [.int 1, .ref 93], (zS I J tg)) r) else (Runs (GW L xs) (d + 1) 229 (158, [.ref 93, .int y0, .int x2, .int x3, .int x4], [.int 0, .ref 93], (zS I J tg)) r)))))) : Runs (GW L xs) (d + 1) 229 (142, [.ref 93, .int x1, .int x2, .int x3, .int x4], [.int y0], (zS I J tg)) r := by
  refine Runs.sN 2 (c' := (144, [.ref 93, .int y0, .int x2, .int x3, .int x4], [.int y0], (zS I J tg))) rfl ?_
  by_cases c1 : y0 = 0
  · rw [if_pos c1] at h
    refine Runs.brT (P := y0 = 0) (a := 196) (b := 147) (L := [.ref 93, .int y0, .int x2, .int x3, .int x4]) (S := []) (z := (zS I J tg)) rfl c1 ?_
    exact h
  · rw [if_neg c1] at h
    refine Runs.brF (P := y0 = 0) (a := 196) (b := 147) (L := [.ref 93, .int y0, .int x2, .int x3, .int x4]) (S := []) (z := (zS I J tg)) rfl c1 ?_
    refine Runs.sN 2 (c' := (150, [.ref 93, .int y0, .int x2, .int x3, .int x4], [.int x4, .ref 93], (zS I J tg))) rfl ?_
    by_cases c2 : x4 = 0
    · rw [if_pos c2] at h
      refine Runs.brT (P := x4 = 0) (a := 153) (b := 157) (L := [.ref 93, .int y0, .int x2, .int x3, .int x4]) (S := [.ref 93]) (z := (zS I J tg)) rfl c2 ?_
      refine Runs.sN 2 (c' := (158, [.ref 93, .int y0, .int x2, .int x3, .int x4], [.int 1, .ref 93], (zS I J tg))) rfl ?_
      exact h
    · rw [if_neg c2] at h
      refine Runs.brF (P := x4 = 0) (a := 153) (b := 157) (L := [.ref 93, .int y0, .int x2, .int x3, .int x4]) (S := [.ref 93]) (z := (zS I J tg)) rfl c2 ?_
      refine Runs.sN 1 (c' := (158, [.ref 93, .int y0, .int x2, .int x3, .int x4], [.int 0, .ref 93], (zS I J tg))) rfl ?_
      exact h
theorem sg_229_158 {L d : Nat} {xs : Nat → Int32} (I : Nat → Nat → Int32) (J : Nat → Nat → Int64) (tg : Option Nat) (x1 : Int32) (x2 : Int32) (x3 : Int32) (x4 : Int32) (y1 : Int32) {r : Option Value × SS} (h : (∃ (I1 : Nat → Nat → Int32) (J2 : Nat → Nat → Int64), Runs (GW L xs) d 228 (0, [.ref 93, .int y1], [], (zS I J tg)) (none, (zS I1 J2 tg)) ∧ (if x4 = 0 then (Runs (GW L xs) (d + 1) 229 (181, [.ref 93, .int x1, .int x2, .int x3, .int x4], [.int 22, .int (I1 93 10), .ref 101], (zS I1 J2 tg)) r) else (Runs (GW L xs) (d + 1) 229 (181, [.ref 93, .int x1, .int x2, .int x3, .int x4], [.int 21, .int (I1 93 10), .ref 101], (zS I1 J2 tg)) r)))) : Runs (GW L xs) (d + 1) 229 (158, [.ref 93, .int x1, .int x2, .int x3, .int x4], [.int y1, .ref 93], (zS I J tg)) r := by
  obtain ⟨I1, J2, c3, h⟩ := h
  refine Runs.cl (cm := 228) (as := [.ref 93, .int y1]) (rest := []) (r1 := (none, (zS I1 J2 tg))) rfl (Nat.le_of_ble_eq_true rfl) c3 ?_
  refine Runs.as (c' := (161, [.ref 93, .int x1, .int x2, .int x3, .int x4], [], (zS I1 J2 tg))) rfl ?_
  refine Runs.sN 5 (c' := (171, [.ref 93, .int x1, .int x2, .int x3, .int x4], [.int x4, .int (I1 93 10), .ref 101], (zS I1 J2 tg))) rfl ?_
  by_cases c4 : x4 = 0
  · rw [if_pos c4] at h
    refine Runs.brT (P := x4 = 0) (a := 179) (b := 174) (L := [.ref 93, .int x1, .int x2, .int x3, .int x4]) (S := [.int (I1 93 10), .ref 101]) (z := (zS I1 J2 tg)) rfl c4 ?_
    refine Runs.sN 1 (c' := (181, [.ref 93, .int x1, .int x2, .int x3, .int x4], [.int 22, .int (I1 93 10), .ref 101], (zS I1 J2 tg))) rfl ?_
    exact h
  · rw [if_neg c4] at h
    refine Runs.brF (P := x4 = 0) (a := 179) (b := 174) (L := [.ref 93, .int x1, .int x2, .int x3, .int x4]) (S := [.int (I1 93 10), .ref 101]) (z := (zS I1 J2 tg)) rfl c4 ?_
    refine Runs.sN 2 (c' := (181, [.ref 93, .int x1, .int x2, .int x3, .int x4], [.int 21, .int (I1 93 10), .ref 101], (zS I1 J2 tg))) rfl ?_
    exact h
theorem sg_229_181 {L d : Nat} {xs : Nat → Int32} (I : Nat → Nat → Int32) (J : Nat → Nat → Int64) (tg : Option Nat) (x1 : Int32) (x2 : Int32) (x3 : Int32) (x4 : Int32) (y1 : Int32) (y2 : Int32) {r : Option Value × SS} (h : (¬ (y1 < 0 ∨ 160 ≤ (y1).toNatClampNeg) ∧ ∃ (I1 : Nat → Nat → Int32) (J2 : Nat → Nat → Int64), Runs (GW L xs) d 213 (0, [.ref 93, vU, vU], [], (zS (up2 (up2 I 101 ((y1).toNatClampNeg) y2) 93 10 ((I 93 10) + 1)) J tg)) (none, (zS I1 J2 tg)) ∧ Runs (GW L xs) (d + 1) 229 (196, [.ref 93, .int x1, .int x2, .int x3, .int x4], [], (zS I1 J2 tg)) r)) : Runs (GW L xs) (d + 1) 229 (181, [.ref 93, .int x1, .int x2, .int x3, .int x4], [.int y2, .int y1, .ref 101], (zS I J tg)) r := by
  obtain ⟨c3, h⟩ := h
  refine Runs.to (c' := (182, [.ref 93, .int x1, .int x2, .int x3, .int x4], [], (zS (up2 I 101 ((y1).toNatClampNeg) y2) J tg))) (Runs.ist rfl (show (101 : Nat) < 114 by decide) rfl c3) ?_
  refine Runs.sN 7 (c' := (193, [.ref 93, .int x1, .int x2, .int x3, .int x4], [.ref 93], (zS (up2 (up2 I 101 ((y1).toNatClampNeg) y2) 93 10 ((I 93 10) + 1)) J tg))) rfl ?_
  obtain ⟨I1, J2, c4, h⟩ := h
  refine Runs.cl (cm := 213) (as := [.ref 93]) (rest := []) (r1 := (none, (zS I1 J2 tg))) rfl (Nat.le_of_ble_eq_true rfl) c4 ?_
  refine Runs.as (c' := (196, [.ref 93, .int x1, .int x2, .int x3, .int x4], [], (zS I1 J2 tg))) rfl ?_
  exact h
theorem sg_229_196 {L d : Nat} {xs : Nat → Int32} (I : Nat → Nat → Int32) (J : Nat → Nat → Int64) (tg : Option Nat) (x1 : Int32) (x2 : Int32) (x3 : Int32) (x4 : Int32) {r : Option Value × SS} (h : (Runs (GW L xs) (d + 1) 229 (7, [.ref 93, .int x1, vU, vU, vU], [], (zS I J tg)) r)) : Runs (GW L xs) (d + 1) 229 (196, [.ref 93, .int x1, .int x2, .int x3, .int x4], [], (zS I J tg)) r := by
  refine Runs.sN 1 (c' := (7, [.ref 93, .int x1, .int x2, .int x3, .int x4], [], (zS I J tg))) rfl ?_
  exact Runs.weak (L := [.ref 93, .int x1, vU, vU, vU]) (Lle.k (Lle.k (Lle.u (Lle.u (Lle.u Lle.n))))) h
-- X12_sortOf 
theorem sg_230 {L d : Nat} {xs : Nat → Int32} (I : Nat → Nat → Int32) (J : Nat → Nat → Int64) (tg : Option Nat) {r : Option Value × SS} (h : (∃ (v19 : Int64) (I20 : Nat → Nat → Int32) (J21 : Nat → Nat → Int64), Runs (GW L xs) d 214 (0, [.int 110, .int 111, .int 116], [], (zS I J tg)) ((some (.long v19)), (zS I20 J21 tg)) ∧ ∃ (v22 : Int32) (I23 : Nat → Nat → Int32) (J24 : Nat → Nat → Int64), Runs (GW L xs) d 218 (0, [.ref 93, .long v19, vU], [], (zS I20 J21 tg)) ((some (.int v22)), (zS I23 J24 tg)) ∧ (if v22 = 0 then (∃ (v25 : Int64) (I26 : Nat → Nat → Int32) (J27 : Nat → Nat → Int64), Runs (GW L xs) d 216 (0, [.int 109, .int 117, .int 115, .int 116], [], (zS I23 J24 tg)) ((some (.long v25)), (zS I26 J27 tg)) ∧ ∃ (v28 : Int32) (I29 : Nat → Nat → Int32) (J30 : Nat → Nat → Int64), Runs (GW L xs) d 218 (0, [.ref 93, .long v25, vU], [], (zS I26 J27 tg)) ((some (.int v28)), (zS I29 J30 tg)) ∧ (if v28 = 0 then (∃ (v31 : Int64) (I32 : Nat → Nat → Int32) (J33 : Nat → Nat → Int64), Runs (GW L xs) d 216 (0, [.int 104, .int 97, .int 114, .int 109], [], (zS I29 J30 tg)) ((some (.long v31)), (zS I32 J33 tg)) ∧ ∃ (v34 : Int32) (I35 : Nat → Nat → Int32) (J36 : Nat → Nat → Int64), Runs (GW L xs) d 218 (0, [.ref 93, .long v31, vU], [], (zS I32 J33 tg)) ((some (.int v34)), (zS I35 J36 tg)) ∧ (if v34 = 0 then (r = (some (.int 0), (zS I35 J36 tg))) else (r = (some (.int 3), (zS I35 J36 tg))))) else (r = (some (.int 2), (zS I29 J30 tg))))) else (r = (some (.int 1), (zS I23 J24 tg)))))) : Runs (GW L xs) (d + 1) 230 (0, [.ref 93], [], (zS I J tg)) r := by
  refine Runs.sN 4 (c' := (7, [.ref 93], [.int 116, .int 111, .int 110, .ref 93], (zS I J tg))) rfl ?_
  obtain ⟨v19, I20, J21, c37, h⟩ := h
  refine Runs.cl (cm := 214) (as := [.int 110, .int 111, .int 116]) (rest := [.ref 93]) (r1 := ((some (.long v19)), (zS I20 J21 tg))) rfl (Nat.le_of_ble_eq_true rfl) c37 ?_
  refine Runs.as (c' := (10, [.ref 93], [.long v19, .ref 93], (zS I20 J21 tg))) rfl ?_
  obtain ⟨v22, I23, J24, c38, h⟩ := h
  refine Runs.cl (cm := 218) (as := [.ref 93, .long v19]) (rest := []) (r1 := ((some (.int v22)), (zS I23 J24 tg))) rfl (Nat.le_of_ble_eq_true rfl) c38 ?_
  refine Runs.as (c' := (13, [.ref 93], [.int v22], (zS I23 J24 tg))) rfl ?_
  by_cases c39 : v22 = 0
  · rw [if_pos c39] at h
    refine Runs.brT (P := v22 = 0) (a := 20) (b := 16) (L := [.ref 93]) (S := []) (z := (zS I23 J24 tg)) rfl c39 ?_
    refine Runs.sN 5 (c' := (29, [.ref 93], [.int 116, .int 115, .int 117, .int 109, .ref 93], (zS I23 J24 tg))) rfl ?_
    obtain ⟨v25, I26, J27, c40, h⟩ := h
    refine Runs.cl (cm := 216) (as := [.int 109, .int 117, .int 115, .int 116]) (rest := [.ref 93]) (r1 := ((some (.long v25)), (zS I26 J27 tg))) rfl (Nat.le_of_ble_eq_true rfl) c40 ?_
    refine Runs.as (c' := (32, [.ref 93], [.long v25, .ref 93], (zS I26 J27 tg))) rfl ?_
    obtain ⟨v28, I29, J30, c41, h⟩ := h
    refine Runs.cl (cm := 218) (as := [.ref 93, .long v25]) (rest := []) (r1 := ((some (.int v28)), (zS I29 J30 tg))) rfl (Nat.le_of_ble_eq_true rfl) c41 ?_
    refine Runs.as (c' := (35, [.ref 93], [.int v28], (zS I29 J30 tg))) rfl ?_
    by_cases c42 : v28 = 0
    · rw [if_pos c42] at h
      refine Runs.brT (P := v28 = 0) (a := 42) (b := 38) (L := [.ref 93]) (S := []) (z := (zS I29 J30 tg)) rfl c42 ?_
      refine Runs.sN 5 (c' := (51, [.ref 93], [.int 109, .int 114, .int 97, .int 104, .ref 93], (zS I29 J30 tg))) rfl ?_
      obtain ⟨v31, I32, J33, c43, h⟩ := h
      refine Runs.cl (cm := 216) (as := [.int 104, .int 97, .int 114, .int 109]) (rest := [.ref 93]) (r1 := ((some (.long v31)), (zS I32 J33 tg))) rfl (Nat.le_of_ble_eq_true rfl) c43 ?_
      refine Runs.as (c' := (54, [.ref 93], [.long v31, .ref 93], (zS I32 J33 tg))) rfl ?_
      obtain ⟨v34, I35, J36, c44, h⟩ := h
      refine Runs.cl (cm := 218) (as := [.ref 93, .long v31]) (rest := []) (r1 := ((some (.int v34)), (zS I35 J36 tg))) rfl (Nat.le_of_ble_eq_true rfl) c44 ?_
      refine Runs.as (c' := (57, [.ref 93], [.int v34], (zS I35 J36 tg))) rfl ?_
      by_cases c45 : v34 = 0
      · rw [if_pos c45] at h
        refine Runs.brT (P := v34 = 0) (a := 64) (b := 60) (L := [.ref 93]) (S := []) (z := (zS I35 J36 tg)) rfl c45 ?_
        refine Runs.sN 1 (c' := (65, [.ref 93], [.int 0], (zS I35 J36 tg))) rfl ?_
        subst h
        exact Runs.rt rfl
      · rw [if_neg c45] at h
        refine Runs.brF (P := v34 = 0) (a := 64) (b := 60) (L := [.ref 93]) (S := []) (z := (zS I35 J36 tg)) rfl c45 ?_
        refine Runs.sN 2 (c' := (65, [.ref 93], [.int 3], (zS I35 J36 tg))) rfl ?_
        subst h
        exact Runs.rt rfl
    · rw [if_neg c42] at h
      refine Runs.brF (P := v28 = 0) (a := 42) (b := 38) (L := [.ref 93]) (S := []) (z := (zS I29 J30 tg)) rfl c42 ?_
      refine Runs.sN 2 (c' := (65, [.ref 93], [.int 2], (zS I29 J30 tg))) rfl ?_
      subst h
      exact Runs.rt rfl
  · rw [if_neg c39] at h
    refine Runs.brF (P := v22 = 0) (a := 20) (b := 16) (L := [.ref 93]) (S := []) (z := (zS I23 J24 tg)) rfl c39 ?_
    refine Runs.sN 2 (c' := (65, [.ref 93], [.int 1], (zS I23 J24 tg))) rfl ?_
    subst h
    exact Runs.rt rfl
-- X12_clause 
theorem sg_231 {L d : Nat} {xs : Nat → Int32} (I : Nat → Nat → Int32) (J : Nat → Nat → Int64) (tg : Option Nat) {r : Option Value × SS} (h : (∃ (v31 : Int32) (I32 : Nat → Nat → Int32) (J33 : Nat → Nat → Int64), Runs (GW L xs) d 230 (0, [.ref 93], [], (zS I J tg)) ((some (.int v31)), (zS I32 J33 tg)) ∧ (if v31 = 0 then (r = (some (.int 1), (zS (up2 I32 93 8 v31) J33 tg))) else ((if v31 = 3 then ((if (I32 93 21) ≤ 0 then (Runs (GW L xs) (d + 1) 231 (34, [.ref 93, vU, vU], [], (zS (up2 I32 93 8 v31) J33 tg)) r) else (r = (some (.int 4), (zS (up2 I32 93 8 v31) J33 tg))))) else (Runs (GW L xs) (d + 1) 231 (34, [.ref 93, vU, vU], [], (zS (up2 I32 93 8 v31) J33 tg)) r)))))) : Runs (GW L xs) (d + 1) 231 (0, [.ref 93, vU, vU], [], (zS I J tg)) r := by
  refine Runs.sN 2 (c' := (2, [.ref 93, vU, vU], [.ref 93, .ref 93], (zS I J tg))) rfl ?_
  obtain ⟨v31, I32, J33, c34, h⟩ := h
  refine Runs.cl (cm := 230) (as := [.ref 93]) (rest := [.ref 93]) (r1 := ((some (.int v31)), (zS I32 J33 tg))) rfl (Nat.le_of_ble_eq_true rfl) c34 ?_
  refine Runs.as (c' := (5, [.ref 93, vU, vU], [.int v31, .ref 93], (zS I32 J33 tg))) rfl ?_
  refine Runs.sN 3 (c' := (12, [.ref 93, vU, vU], [.int v31], (zS (up2 I32 93 8 v31) J33 tg))) rfl ?_
  by_cases c35 : v31 = 0
  · rw [if_pos c35] at h
    refine Runs.brT (P := v31 = 0) (a := 15) (b := 17) (L := [.ref 93, vU, vU]) (S := []) (z := (zS (up2 I32 93 8 v31) J33 tg)) rfl c35 ?_
    refine Runs.sN 1 (c' := (16, [.ref 93, vU, vU], [.int 1], (zS (up2 I32 93 8 v31) J33 tg))) rfl ?_
    subst h
    exact Runs.rt rfl
  · rw [if_neg c35] at h
    refine Runs.brF (P := v31 = 0) (a := 15) (b := 17) (L := [.ref 93, vU, vU]) (S := []) (z := (zS (up2 I32 93 8 v31) J33 tg)) rfl c35 ?_
    refine Runs.sN 3 (c' := (22, [.ref 93, vU, vU], [.int 3, .int v31], (zS (up2 I32 93 8 v31) J33 tg))) rfl ?_
    by_cases c36 : v31 = 3
    · rw [if_pos c36] at h
      refine Runs.brT (P := v31 = 3) (a := 25) (b := 34) (L := [.ref 93, vU, vU]) (S := []) (z := (zS (up2 I32 93 8 v31) J33 tg)) rfl c36 ?_
      refine Runs.sN 2 (c' := (29, [.ref 93, vU, vU], [.int (I32 93 21)], (zS (up2 I32 93 8 v31) J33 tg))) rfl ?_
      by_cases c37 : (I32 93 21) ≤ 0
      · rw [if_pos c37] at h
        refine Runs.brT (P := (I32 93 21) ≤ 0) (a := 34) (b := 32) (L := [.ref 93, vU, vU]) (S := []) (z := (zS (up2 I32 93 8 v31) J33 tg)) rfl c37 ?_
        exact h
      · rw [if_neg c37] at h
        refine Runs.brF (P := (I32 93 21) ≤ 0) (a := 34) (b := 32) (L := [.ref 93, vU, vU]) (S := []) (z := (zS (up2 I32 93 8 v31) J33 tg)) rfl c37 ?_
        refine Runs.sN 1 (c' := (33, [.ref 93, vU, vU], [.int 4], (zS (up2 I32 93 8 v31) J33 tg))) rfl ?_
        subst h
        exact Runs.rt rfl
    · rw [if_neg c36] at h
      refine Runs.brF (P := v31 = 3) (a := 25) (b := 34) (L := [.ref 93, vU, vU]) (S := []) (z := (zS (up2 I32 93 8 v31) J33 tg)) rfl c36 ?_
      exact h
theorem sg_231_34 {L d : Nat} {xs : Nat → Int32} (I : Nat → Nat → Int32) (J : Nat → Nat → Int64) (tg : Option Nat) {r : Option Value × SS} (h : (¬ ((I 93 18) < 0 ∨ 3200 ≤ (I 93 18).toNatClampNeg) ∧ (if (I 96 ((I 93 18).toNatClampNeg)) = 10 then (r = (some (.int 6), (zS I J tg))) else ((if (I 93 8) = 3 then (Runs (GW L xs) (d + 1) 231 (70, [.ref 93, .int (I 96 ((I 93 18).toNatClampNeg)), vU], [.int 1, .ref 93], (zS I J tg)) r) else (Runs (GW L xs) (d + 1) 231 (70, [.ref 93, .int (I 96 ((I 93 18).toNatClampNeg)), vU], [.int (I 93 21), .ref 93], (zS I J tg)) r)))))) : Runs (GW L xs) (d + 1) 231 (34, [.ref 93, vU, vU], [], (zS I J tg)) r := by
  refine Runs.sN 4 (c' := (42, [.ref 93, vU, vU], [.int (I 93 18), .ref 96], (zS I J tg))) rfl ?_
  obtain ⟨c1, h⟩ := h
  refine Runs.to (c' := (43, [.ref 93, vU, vU], [.int (I 96 ((I 93 18).toNatClampNeg))], (zS I J tg))) (Runs.ild rfl (show (96 : Nat) < 114 by decide) rfl c1) ?_
  refine Runs.sN 3 (c' := (47, [.ref 93, .int (I 96 ((I 93 18).toNatClampNeg)), vU], [.int 10, .int (I 96 ((I 93 18).toNatClampNeg))], (zS I J tg))) rfl ?_
  by_cases c2 : (I 96 ((I 93 18).toNatClampNeg)) = 10
  · rw [if_pos c2] at h
    refine Runs.brT (P := (I 96 ((I 93 18).toNatClampNeg)) = 10) (a := 50) (b := 53) (L := [.ref 93, .int (I 96 ((I 93 18).toNatClampNeg)), vU]) (S := []) (z := (zS I J tg)) rfl c2 ?_
    refine Runs.sN 1 (c' := (52, [.ref 93, .int (I 96 ((I 93 18).toNatClampNeg)), vU], [.int 6], (zS I J tg))) rfl ?_
    subst h
    exact Runs.rt rfl
  · rw [if_neg c2] at h
    refine Runs.brF (P := (I 96 ((I 93 18).toNatClampNeg)) = 10) (a := 50) (b := 53) (L := [.ref 93, .int (I 96 ((I 93 18).toNatClampNeg)), vU]) (S := []) (z := (zS I J tg)) rfl c2 ?_
    refine Runs.sN 4 (c' := (59, [.ref 93, .int (I 96 ((I 93 18).toNatClampNeg)), vU], [.int 3, .int (I 93 8), .ref 93], (zS I J tg))) rfl ?_
    by_cases c3 : (I 93 8) = 3
    · rw [if_pos c3] at h
      refine Runs.brT (P := (I 93 8) = 3) (a := 62) (b := 66) (L := [.ref 93, .int (I 96 ((I 93 18).toNatClampNeg)), vU]) (S := [.ref 93]) (z := (zS I J tg)) rfl c3 ?_
      refine Runs.sN 2 (c' := (70, [.ref 93, .int (I 96 ((I 93 18).toNatClampNeg)), vU], [.int 1, .ref 93], (zS I J tg))) rfl ?_
      exact h
    · rw [if_neg c3] at h
      refine Runs.brF (P := (I 93 8) = 3) (a := 62) (b := 66) (L := [.ref 93, .int (I 96 ((I 93 18).toNatClampNeg)), vU]) (S := [.ref 93]) (z := (zS I J tg)) rfl c3 ?_
      refine Runs.sN 2 (c' := (70, [.ref 93, .int (I 96 ((I 93 18).toNatClampNeg)), vU], [.int (I 93 21), .ref 93], (zS I J tg))) rfl ?_
      exact h
theorem sg_231_70 {L d : Nat} {xs : Nat → Int32} (I : Nat → Nat → Int32) (J : Nat → Nat → Int64) (tg : Option Nat) (x1 : Int32) (y1 : Int32) {r : Option Value × SS} (h : (∃ (I1 : Nat → Nat → Int32) (J2 : Nat → Nat → Int64), Runs (GW L xs) d 213 (0, [.ref 93, vU, vU], [], (zS (up2 I 93 21 y1) J tg)) (none, (zS I1 J2 tg)) ∧ ¬ ((((I1 93 18) + 1) + (3 * x1)) < 0 ∨ 3200 ≤ (((I1 93 18) + 1) + (3 * x1)).toNatClampNeg) ∧ ¬ ((((I1 93 18) + 2) + (3 * x1)) < 0 ∨ 3200 ≤ (((I1 93 18) + 2) + (3 * x1)).toNatClampNeg) ∧ (if (I1 93 8) = 3 then (∃ (v3 : Int32) (I4 : Nat → Nat → Int32) (J5 : Nat → Nat → Int64), Runs (GW L xs) d 225 (0, [.ref 93, vU], [], (zS (up2 (up2 I1 96 ((((I1 93 18) + 1) + (3 * x1)).toNatClampNeg) (I1 93 8)) 96 ((((I1 93 18) + 2) + (3 * x1)).toNatClampNeg) (I1 93 20)) J2 tg)) ((some (.int v3)), (zS I4 J5 tg)) ∧ Runs (GW L xs) (d + 1) 231 (134, [.ref 93, .int x1, vU], [.int v3], (zS I4 J5 tg)) r) else (∃ (v6 : Int32) (I7 : Nat → Nat → Int32) (J8 : Nat → Nat → Int64), Runs (GW L xs) d 229 (0, [.ref 93, vU, vU, vU, vU], [], (zS (up2 (up2 I1 96 ((((I1 93 18) + 1) + (3 * x1)).toNatClampNeg) (I1 93 8)) 96 ((((I1 93 18) + 2) + (3 * x1)).toNatClampNeg) (I1 93 20)) J2 tg)) ((some (.int v6)), (zS I7 J8 tg)) ∧ Runs (GW L xs) (d + 1) 231 (134, [.ref 93, .int x1, vU], [.int v6], (zS I7 J8 tg)) r)))) : Runs (GW L xs) (d + 1) 231 (70, [.ref 93, .int x1, vU], [.int y1, .ref 93], (zS I J tg)) r := by
  refine Runs.sN 2 (c' := (74, [.ref 93, .int x1, vU], [.ref 93], (zS (up2 I 93 21 y1) J tg))) rfl ?_
  obtain ⟨I1, J2, c9, h⟩ := h
  refine Runs.cl (cm := 213) (as := [.ref 93]) (rest := []) (r1 := (none, (zS I1 J2 tg))) rfl (Nat.le_of_ble_eq_true rfl) c9 ?_
  refine Runs.as (c' := (77, [.ref 93, .int x1, vU], [], (zS I1 J2 tg))) rfl ?_
  refine Runs.sN 12 (c' := (95, [.ref 93, .int x1, vU], [.int (I1 93 8), .int (((I1 93 18) + 1) + (3 * x1)), .ref 96], (zS I1 J2 tg))) rfl ?_
  obtain ⟨c10, h⟩ := h
  refine Runs.to (c' := (96, [.ref 93, .int x1, vU], [], (zS (up2 I1 96 ((((I1 93 18) + 1) + (3 * x1)).toNatClampNeg) (I1 93 8)) J2 tg))) (Runs.ist rfl (show (96 : Nat) < 114 by decide) rfl c10) ?_
  refine Runs.sN 12 (c' := (114, [.ref 93, .int x1, vU], [.int (I1 93 20), .int (((I1 93 18) + 2) + (3 * x1)), .ref 96], (zS (up2 I1 96 ((((I1 93 18) + 1) + (3 * x1)).toNatClampNeg) (I1 93 8)) J2 tg))) rfl ?_
  obtain ⟨c11, h⟩ := h
  refine Runs.to (c' := (115, [.ref 93, .int x1, vU], [], (zS (up2 (up2 I1 96 ((((I1 93 18) + 1) + (3 * x1)).toNatClampNeg) (I1 93 8)) 96 ((((I1 93 18) + 2) + (3 * x1)).toNatClampNeg) (I1 93 20)) J2 tg))) (Runs.ist rfl (show (96 : Nat) < 114 by decide) rfl c11) ?_
  refine Runs.sN 3 (c' := (120, [.ref 93, .int x1, vU], [.int 3, .int (I1 93 8)], (zS (up2 (up2 I1 96 ((((I1 93 18) + 1) + (3 * x1)).toNatClampNeg) (I1 93 8)) 96 ((((I1 93 18) + 2) + (3 * x1)).toNatClampNeg) (I1 93 20)) J2 tg))) rfl ?_
  by_cases c12 : (I1 93 8) = 3
  · rw [if_pos c12] at h
    refine Runs.brT (P := (I1 93 8) = 3) (a := 123) (b := 130) (L := [.ref 93, .int x1, vU]) (S := []) (z := (zS (up2 (up2 I1 96 ((((I1 93 18) + 1) + (3 * x1)).toNatClampNeg) (I1 93 8)) 96 ((((I1 93 18) + 2) + (3 * x1)).toNatClampNeg) (I1 93 20)) J2 tg)) rfl c12 ?_
    refine Runs.sN 1 (c' := (124, [.ref 93, .int x1, vU], [.ref 93], (zS (up2 (up2 I1 96 ((((I1 93 18) + 1) + (3 * x1)).toNatClampNeg) (I1 93 8)) 96 ((((I1 93 18) + 2) + (3 * x1)).toNatClampNeg) (I1 93 20)) J2 tg))) rfl ?_
    obtain ⟨v3, I4, J5, c13, h⟩ := h
    refine Runs.cl (cm := 225) (as := [.ref 93]) (rest := []) (r1 := ((some (.int v3)), (zS I4 J5 tg))) rfl (Nat.le_of_ble_eq_true rfl) c13 ?_
    refine Runs.as (c' := (127, [.ref 93, .int x1, vU], [.int v3], (zS I4 J5 tg))) rfl ?_
    refine Runs.sN 1 (c' := (134, [.ref 93, .int x1, vU], [.int v3], (zS I4 J5 tg))) rfl ?_
    exact h
  · rw [if_neg c12] at h
    refine Runs.brF (P := (I1 93 8) = 3) (a := 123) (b := 130) (L := [.ref 93, .int x1, vU]) (S := []) (z := (zS (up2 (up2 I1 96 ((((I1 93 18) + 1) + (3 * x1)).toNatClampNeg) (I1 93 8)) 96 ((((I1 93 18) + 2) + (3 * x1)).toNatClampNeg) (I1 93 20)) J2 tg)) rfl c12 ?_
    refine Runs.sN 1 (c' := (131, [.ref 93, .int x1, vU], [.ref 93], (zS (up2 (up2 I1 96 ((((I1 93 18) + 1) + (3 * x1)).toNatClampNeg) (I1 93 8)) 96 ((((I1 93 18) + 2) + (3 * x1)).toNatClampNeg) (I1 93 20)) J2 tg))) rfl ?_
    obtain ⟨v6, I7, J8, c14, h⟩ := h
    refine Runs.cl (cm := 229) (as := [.ref 93]) (rest := []) (r1 := ((some (.int v6)), (zS I7 J8 tg))) rfl (Nat.le_of_ble_eq_true rfl) c14 ?_
    refine Runs.as (c' := (134, [.ref 93, .int x1, vU], [.int v6], (zS I7 J8 tg))) rfl ?_
    exact h
theorem sg_231_134 {L d : Nat} {xs : Nat → Int32} (I : Nat → Nat → Int32) (J : Nat → Nat → Int64) (tg : Option Nat) (x1 : Int32) (y0 : Int32) {r : Option Value × SS} (h : ((if y0 = 0 then (¬ ((((I 93 18) + 3) + (3 * x1)) < 0 ∨ 3200 ≤ (((I 93 18) + 3) + (3 * x1)).toNatClampNeg) ∧ ¬ ((I 93 18) < 0 ∨ 3200 ≤ (I 93 18).toNatClampNeg) ∧ ¬ ((I 93 18) < 0 ∨ 3200 ≤ (I 93 18).toNatClampNeg) ∧ (if (I 93 15) = 59 then (∃ (I1 : Nat → Nat → Int32) (J2 : Nat → Nat → Int64), Runs (GW L xs) d 213 (0, [.ref 93, vU, vU], [], (zS (up2 (up2 I 96 ((((I 93 18) + 3) + (3 * x1)).toNatClampNeg) (I 93 20)) 96 ((I 93 18).toNatClampNeg) (((up2 I 96 ((((I 93 18) + 3) + (3 * x1)).toNatClampNeg) (I 93 20)) 96 ((I 93 18).toNatClampNeg)) + 1)) J tg)) (none, (zS I1 J2 tg)) ∧ r = (some (.int 0), (zS I1 J2 tg))) else (r = (some (.int 1), (zS (up2 (up2 I 96 ((((I 93 18) + 3) + (3 * x1)).toNatClampNeg) (I 93 20)) 96 ((I 93 18).toNatClampNeg) (((up2 I 96 ((((I 93 18) + 3) + (3 * x1)).toNatClampNeg) (I 93 20)) 96 ((I 93 18).toNatClampNeg)) + 1)) J tg))))) else (r = (some (.int y0), (zS I J tg)))))) : Runs (GW L xs) (d + 1) 231 (134, [.ref 93, .int x1, vU], [.int y0], (zS I J tg)) r := by
  refine Runs.sN 2 (c' := (136, [.ref 93, .int x1, .int y0], [.int y0], (zS I J tg))) rfl ?_
  by_cases c3 : y0 = 0
  · rw [if_pos c3] at h
    refine Runs.brT (P := y0 = 0) (a := 141) (b := 139) (L := [.ref 93, .int x1, .int y0]) (S := []) (z := (zS I J tg)) rfl c3 ?_
    refine Runs.sN 12 (c' := (159, [.ref 93, .int x1, .int y0], [.int (I 93 20), .int (((I 93 18) + 3) + (3 * x1)), .ref 96], (zS I J tg))) rfl ?_
    obtain ⟨c4, h⟩ := h
    refine Runs.to (c' := (160, [.ref 93, .int x1, .int y0], [], (zS (up2 I 96 ((((I 93 18) + 3) + (3 * x1)).toNatClampNeg) (I 93 20)) J tg))) (Runs.ist rfl (show (96 : Nat) < 114 by decide) rfl c4) ?_
    refine Runs.sN 5 (c' := (169, [.ref 93, .int x1, .int y0], [.int (I 93 18), .ref 96, .int (I 93 18), .ref 96], (zS (up2 I 96 ((((I 93 18) + 3) + (3 * x1)).toNatClampNeg) (I 93 20)) J tg))) rfl ?_
    obtain ⟨c5, h⟩ := h
    refine Runs.to (c' := (170, [.ref 93, .int x1, .int y0], [.int ((up2 I 96 ((((I 93 18) + 3) + (3 * x1)).toNatClampNeg) (I 93 20)) 96 ((I 93 18).toNatClampNeg)), .int (I 93 18), .ref 96], (zS (up2 I 96 ((((I 93 18) + 3) + (3 * x1)).toNatClampNeg) (I 93 20)) J tg))) (Runs.ild rfl (show (96 : Nat) < 114 by decide) rfl c5) ?_
    refine Runs.sN 2 (c' := (172, [.ref 93, .int x1, .int y0], [.int (((up2 I 96 ((((I 93 18) + 3) + (3 * x1)).toNatClampNeg) (I 93 20)) 96 ((I 93 18).toNatClampNeg)) + 1), .int (I 93 18), .ref 96], (zS (up2 I 96 ((((I 93 18) + 3) + (3 * x1)).toNatClampNeg) (I 93 20)) J tg))) rfl ?_
    obtain ⟨c6, h⟩ := h
    refine Runs.to (c' := (173, [.ref 93, .int x1, .int y0], [], (zS (up2 (up2 I 96 ((((I 93 18) + 3) + (3 * x1)).toNatClampNeg) (I 93 20)) 96 ((I 93 18).toNatClampNeg) (((up2 I 96 ((((I 93 18) + 3) + (3 * x1)).toNatClampNeg) (I 93 20)) 96 ((I 93 18).toNatClampNeg)) + 1)) J tg))) (Runs.ist rfl (show (96 : Nat) < 114 by decide) rfl c6) ?_
    refine Runs.sN 3 (c' := (179, [.ref 93, .int x1, .int y0], [.int 59, .int (I 93 15)], (zS (up2 (up2 I 96 ((((I 93 18) + 3) + (3 * x1)).toNatClampNeg) (I 93 20)) 96 ((I 93 18).toNatClampNeg) (((up2 I 96 ((((I 93 18) + 3) + (3 * x1)).toNatClampNeg) (I 93 20)) 96 ((I 93 18).toNatClampNeg)) + 1)) J tg))) rfl ?_
    by_cases c7 : (I 93 15) = 59
    · rw [if_pos c7] at h
      refine Runs.brT (P := (I 93 15) = 59) (a := 184) (b := 182) (L := [.ref 93, .int x1, .int y0]) (S := []) (z := (zS (up2 (up2 I 96 ((((I 93 18) + 3) + (3 * x1)).toNatClampNeg) (I 93 20)) 96 ((I 93 18).toNatClampNeg) (((up2 I 96 ((((I 93 18) + 3) + (3 * x1)).toNatClampNeg) (I 93 20)) 96 ((I 93 18).toNatClampNeg)) + 1)) J tg)) rfl c7 ?_
      refine Runs.sN 1 (c' := (185, [.ref 93, .int x1, .int y0], [.ref 93], (zS (up2 (up2 I 96 ((((I 93 18) + 3) + (3 * x1)).toNatClampNeg) (I 93 20)) 96 ((I 93 18).toNatClampNeg) (((up2 I 96 ((((I 93 18) + 3) + (3 * x1)).toNatClampNeg) (I 93 20)) 96 ((I 93 18).toNatClampNeg)) + 1)) J tg))) rfl ?_
      obtain ⟨I1, J2, c8, h⟩ := h
      refine Runs.cl (cm := 213) (as := [.ref 93]) (rest := []) (r1 := (none, (zS I1 J2 tg))) rfl (Nat.le_of_ble_eq_true rfl) c8 ?_
      refine Runs.as (c' := (188, [.ref 93, .int x1, .int y0], [], (zS I1 J2 tg))) rfl ?_
      refine Runs.sN 1 (c' := (189, [.ref 93, .int x1, .int y0], [.int 0], (zS I1 J2 tg))) rfl ?_
      subst h
      exact Runs.rt rfl
    · rw [if_neg c7] at h
      refine Runs.brF (P := (I 93 15) = 59) (a := 184) (b := 182) (L := [.ref 93, .int x1, .int y0]) (S := []) (z := (zS (up2 (up2 I 96 ((((I 93 18) + 3) + (3 * x1)).toNatClampNeg) (I 93 20)) 96 ((I 93 18).toNatClampNeg) (((up2 I 96 ((((I 93 18) + 3) + (3 * x1)).toNatClampNeg) (I 93 20)) 96 ((I 93 18).toNatClampNeg)) + 1)) J tg)) rfl c7 ?_
      refine Runs.sN 1 (c' := (183, [.ref 93, .int x1, .int y0], [.int 1], (zS (up2 (up2 I 96 ((((I 93 18) + 3) + (3 * x1)).toNatClampNeg) (I 93 20)) 96 ((I 93 18).toNatClampNeg) (((up2 I 96 ((((I 93 18) + 3) + (3 * x1)).toNatClampNeg) (I 93 20)) 96 ((I 93 18).toNatClampNeg)) + 1)) J tg))) rfl ?_
      subst h
      exact Runs.rt rfl
  · rw [if_neg c3] at h
    refine Runs.brF (P := y0 = 0) (a := 141) (b := 139) (L := [.ref 93, .int x1, .int y0]) (S := []) (z := (zS I J tg)) rfl c3 ?_
    refine Runs.sN 1 (c' := (140, [.ref 93, .int x1, .int y0], [.int y0], (zS I J tg))) rfl ?_
    subst h
    exact Runs.rt rfl
-- X12_readText 
theorem sg_232 {L d : Nat} {xs : Nat → Int32} (I : Nat → Nat → Int32) (J : Nat → Nat → Int64) (tg : Option Nat) {r : Option Value × SS} (h : (¬ ((800 * (I 94 3)) < 0 ∨ 3200 ≤ (800 * (I 94 3)).toNatClampNeg) ∧ ∃ (I8 : Nat → Nat → Int32) (J9 : Nat → Nat → Int64), Runs (GW L xs) d 213 (0, [.ref 93, vU, vU], [], (zS (up2 (up2 (up2 (up2 (up2 (up2 I 93 18 (800 * (I 94 3))) 96 ((800 * (I 94 3)).toNatClampNeg) 0) 93 20 0) 93 24 0) 93 21 0) 93 13 0) J tg)) (none, (zS I8 J9 tg)) ∧ Runs (GW L xs) (d + 1) 232 (48, [.ref 93, vU], [], (zS I8 J9 tg)) r)) : Runs (GW L xs) (d + 1) 232 (0, [.ref 93, vU], [], (zS I J tg)) r := by
  refine Runs.sN 13 (c' := (23, [.ref 93, vU], [.int 0, .int (800 * (I 94 3)), .ref 96], (zS (up2 I 93 18 (800 * (I 94 3))) J tg))) rfl ?_
  obtain ⟨c10, h⟩ := h
  refine Runs.to (c' := (24, [.ref 93, vU], [], (zS (up2 (up2 I 93 18 (800 * (I 94 3))) 96 ((800 * (I 94 3)).toNatClampNeg) 0) J tg))) (Runs.ist rfl (show (96 : Nat) < 114 by decide) rfl c10) ?_
  refine Runs.sN 13 (c' := (45, [.ref 93, vU], [.ref 93], (zS (up2 (up2 (up2 (up2 (up2 (up2 I 93 18 (800 * (I 94 3))) 96 ((800 * (I 94 3)).toNatClampNeg) 0) 93 20 0) 93 24 0) 93 21 0) 93 13 0) J tg))) rfl ?_
  obtain ⟨I8, J9, c11, h⟩ := h
  refine Runs.cl (cm := 213) (as := [.ref 93]) (rest := []) (r1 := (none, (zS I8 J9 tg))) rfl (Nat.le_of_ble_eq_true rfl) c11 ?_
  refine Runs.as (c' := (48, [.ref 93, vU], [], (zS I8 J9 tg))) rfl ?_
  exact h
theorem sg_232_48 {L d : Nat} {xs : Nat → Int32} (I : Nat → Nat → Int32) (J : Nat → Nat → Int64) (tg : Option Nat) {r : Option Value × SS} (h : ((if (I 93 15) = 0 then (r = (some (.int 0), (zS I J tg))) else (∃ (v1 : Int32) (I2 : Nat → Nat → Int32) (J3 : Nat → Nat → Int64), Runs (GW L xs) d 231 (0, [.ref 93, vU, vU], [], (zS I J tg)) ((some (.int v1)), (zS I2 J3 tg)) ∧ (if v1 = 0 then (Runs (GW L xs) (d + 1) 232 (48, [.ref 93, vU], [], (zS I2 J3 tg)) r) else (r = (some (.int v1), (zS I2 J3 tg)))))))) : Runs (GW L xs) (d + 1) 232 (48, [.ref 93, vU], [], (zS I J tg)) r := by
  refine Runs.sN 2 (c' := (52, [.ref 93, vU], [.int (I 93 15)], (zS I J tg))) rfl ?_
  by_cases c4 : (I 93 15) = 0
  · rw [if_pos c4] at h
    refine Runs.brT (P := (I 93 15) = 0) (a := 69) (b := 55) (L := [.ref 93, vU]) (S := []) (z := (zS I J tg)) rfl c4 ?_
    refine Runs.sN 1 (c' := (70, [.ref 93, vU], [.int 0], (zS I J tg))) rfl ?_
    subst h
    exact Runs.rt rfl
  · rw [if_neg c4] at h
    refine Runs.brF (P := (I 93 15) = 0) (a := 69) (b := 55) (L := [.ref 93, vU]) (S := []) (z := (zS I J tg)) rfl c4 ?_
    refine Runs.sN 1 (c' := (56, [.ref 93, vU], [.ref 93], (zS I J tg))) rfl ?_
    obtain ⟨v1, I2, J3, c5, h⟩ := h
    refine Runs.cl (cm := 231) (as := [.ref 93]) (rest := []) (r1 := ((some (.int v1)), (zS I2 J3 tg))) rfl (Nat.le_of_ble_eq_true rfl) c5 ?_
    refine Runs.as (c' := (59, [.ref 93, vU], [.int v1], (zS I2 J3 tg))) rfl ?_
    refine Runs.sN 2 (c' := (61, [.ref 93, .int v1], [.int v1], (zS I2 J3 tg))) rfl ?_
    by_cases c6 : v1 = 0
    · rw [if_pos c6] at h
      refine Runs.brT (P := v1 = 0) (a := 66) (b := 64) (L := [.ref 93, .int v1]) (S := []) (z := (zS I2 J3 tg)) rfl c6 ?_
      refine Runs.sN 1 (c' := (48, [.ref 93, .int v1], [], (zS I2 J3 tg))) rfl ?_
      exact Runs.weak (L := [.ref 93, vU]) (Lle.k (Lle.u Lle.n)) h
    · rw [if_neg c6] at h
      refine Runs.brF (P := v1 = 0) (a := 66) (b := 64) (L := [.ref 93, .int v1]) (S := []) (z := (zS I2 J3 tg)) rfl c6 ?_
      refine Runs.sN 1 (c' := (65, [.ref 93, .int v1], [.int v1], (zS I2 J3 tg))) rfl ?_
      subst h
      exact Runs.rt rfl
-- X12_grammar 
theorem sg_233 {L d : Nat} {xs : Nat → Int32} (I : Nat → Nat → Int32) (J : Nat → Nat → Int64) (tg : Option Nat) {r : Option Value × SS} (h : ((if (I 94 3) = 4 then (r = (some (.int (-1)), (zS I J tg))) else (∃ (v4 : Int32) (I5 : Nat → Nat → Int32) (J6 : Nat → Nat → Int64), Runs (GW L xs) d 232 (0, [.ref 93, vU], [], (zS I J tg)) ((some (.int v4)), (zS I5 J6 tg)) ∧ (if v4 = 0 then ((if v4 = 0 then (r = (some (.int (((I5 94 3) + 1) - 1)), (zS (up2 (up2 (up2 (up2 I5 93 11 v4) 93 12 (-1)) 93 7 0) 94 3 ((I5 94 3) + 1)) J6 tg))) else (r = (some (.int (-1)), (zS (up2 (up2 (up2 I5 93 11 v4) 93 12 (-1)) 93 7 0) J6 tg))))) else ((if v4 = 0 then (r = (some (.int (((I5 94 3) + 1) - 1)), (zS (up2 (up2 (up2 (up2 I5 93 11 v4) 93 12 (I5 93 14)) 93 7 0) 94 3 ((I5 94 3) + 1)) J6 tg))) else (r = (some (.int (-1)), (zS (up2 (up2 (up2 I5 93 11 v4) 93 12 (I5 93 14)) 93 7 0) J6 tg)))))))))) : Runs (GW L xs) (d + 1) 233 (0, [.ref 93], [], (zS I J tg)) r := by
  refine Runs.sN 5 (c' := (7, [.ref 93], [.int 4, .int (I 94 3)], (zS I J tg))) rfl ?_
  by_cases c7 : (I 94 3) = 4
  · rw [if_pos c7] at h
    refine Runs.brT (P := (I 94 3) = 4) (a := 10) (b := 12) (L := [.ref 93]) (S := []) (z := (zS I J tg)) rfl c7 ?_
    refine Runs.sN 1 (c' := (11, [.ref 93], [.int (-1)], (zS I J tg))) rfl ?_
    subst h
    exact Runs.rt rfl
  · rw [if_neg c7] at h
    refine Runs.brF (P := (I 94 3) = 4) (a := 10) (b := 12) (L := [.ref 93]) (S := []) (z := (zS I J tg)) rfl c7 ?_
    refine Runs.sN 2 (c' := (14, [.ref 93], [.ref 93, .ref 93], (zS I J tg))) rfl ?_
    obtain ⟨v4, I5, J6, c8, h⟩ := h
    refine Runs.cl (cm := 232) (as := [.ref 93]) (rest := [.ref 93]) (r1 := ((some (.int v4)), (zS I5 J6 tg))) rfl (Nat.le_of_ble_eq_true rfl) c8 ?_
    refine Runs.as (c' := (17, [.ref 93], [.int v4, .ref 93], (zS I5 J6 tg))) rfl ?_
    refine Runs.sN 4 (c' := (25, [.ref 93], [.int v4, .ref 93], (zS (up2 I5 93 11 v4) J6 tg))) rfl ?_
    by_cases c9 : v4 = 0
    · rw [if_pos c9] at h
      refine Runs.brT (P := v4 = 0) (a := 28) (b := 32) (L := [.ref 93]) (S := [.ref 93]) (z := (zS (up2 I5 93 11 v4) J6 tg)) rfl c9 ?_
      refine Runs.sN 8 (c' := (48, [.ref 93], [.int v4], (zS (up2 (up2 (up2 I5 93 11 v4) 93 12 (-1)) 93 7 0) J6 tg))) rfl ?_
      by_cases c10 : v4 = 0
      · rw [if_pos c10] at h
        refine Runs.brT (P := v4 = 0) (a := 53) (b := 51) (L := [.ref 93]) (S := []) (z := (zS (up2 (up2 (up2 I5 93 11 v4) 93 12 (-1)) 93 7 0) J6 tg)) rfl c10 ?_
        refine Runs.sN 14 (c' := (71, [.ref 93], [.int (((I5 94 3) + 1) - 1)], (zS (up2 (up2 (up2 (up2 I5 93 11 v4) 93 12 (-1)) 93 7 0) 94 3 ((I5 94 3) + 1)) J6 tg))) rfl ?_
        subst h
        exact Runs.rt rfl
      · rw [if_neg c10] at h
        refine Runs.brF (P := v4 = 0) (a := 53) (b := 51) (L := [.ref 93]) (S := []) (z := (zS (up2 (up2 (up2 I5 93 11 v4) 93 12 (-1)) 93 7 0) J6 tg)) rfl c10 ?_
        refine Runs.sN 1 (c' := (52, [.ref 93], [.int (-1)], (zS (up2 (up2 (up2 I5 93 11 v4) 93 12 (-1)) 93 7 0) J6 tg))) rfl ?_
        subst h
        exact Runs.rt rfl
    · rw [if_neg c9] at h
      refine Runs.brF (P := v4 = 0) (a := 28) (b := 32) (L := [.ref 93]) (S := [.ref 93]) (z := (zS (up2 I5 93 11 v4) J6 tg)) rfl c9 ?_
      refine Runs.sN 8 (c' := (48, [.ref 93], [.int v4], (zS (up2 (up2 (up2 I5 93 11 v4) 93 12 (I5 93 14)) 93 7 0) J6 tg))) rfl ?_
      by_cases c11 : v4 = 0
      · rw [if_pos c11] at h
        refine Runs.brT (P := v4 = 0) (a := 53) (b := 51) (L := [.ref 93]) (S := []) (z := (zS (up2 (up2 (up2 I5 93 11 v4) 93 12 (I5 93 14)) 93 7 0) J6 tg)) rfl c11 ?_
        refine Runs.sN 14 (c' := (71, [.ref 93], [.int (((I5 94 3) + 1) - 1)], (zS (up2 (up2 (up2 (up2 I5 93 11 v4) 93 12 (I5 93 14)) 93 7 0) 94 3 ((I5 94 3) + 1)) J6 tg))) rfl ?_
        subst h
        exact Runs.rt rfl
      · rw [if_neg c11] at h
        refine Runs.brF (P := v4 = 0) (a := 53) (b := 51) (L := [.ref 93]) (S := []) (z := (zS (up2 (up2 (up2 I5 93 11 v4) 93 12 (I5 93 14)) 93 7 0) J6 tg)) rfl c11 ?_
        refine Runs.sN 1 (c' := (52, [.ref 93], [.int (-1)], (zS (up2 (up2 (up2 I5 93 11 v4) 93 12 (I5 93 14)) 93 7 0) J6 tg))) rfl ?_
        subst h
        exact Runs.rt rfl
-- X12_fault 
theorem sg_234 {L d : Nat} {xs : Nat → Int32} (I : Nat → Nat → Int32) (J : Nat → Nat → Int64) (tg : Option Nat) (a1 : Int32) {r : Option Value × SS} (h : ((if a1 = 0 then (r = (some (.int (I 93 11)), (zS I J tg))) else ((if a1 = 1 then (r = (some (.int (I 93 12)), (zS I J tg))) else (r = (some (.int (-1)), (zS I J tg)))))))) : Runs (GW L xs) d 234 (0, [.ref 93, .int a1], [], (zS I J tg)) r := by
  refine Runs.sN 1 (c' := (1, [.ref 93, .int a1], [.int a1], (zS I J tg))) rfl ?_
  by_cases c1 : a1 = 0
  · rw [if_pos c1] at h
    refine Runs.brT (P := a1 = 0) (a := 4) (b := 11) (L := [.ref 93, .int a1]) (S := []) (z := (zS I J tg)) rfl c1 ?_
    refine Runs.sN 3 (c' := (24, [.ref 93, .int a1], [.int (I 93 11)], (zS I J tg))) rfl ?_
    subst h
    exact Runs.rt rfl
  · rw [if_neg c1] at h
    refine Runs.brF (P := a1 = 0) (a := 4) (b := 11) (L := [.ref 93, .int a1]) (S := []) (z := (zS I J tg)) rfl c1 ?_
    refine Runs.sN 2 (c' := (13, [.ref 93, .int a1], [.int 1, .int a1], (zS I J tg))) rfl ?_
    by_cases c2 : a1 = 1
    · rw [if_pos c2] at h
      refine Runs.brT (P := a1 = 1) (a := 16) (b := 23) (L := [.ref 93, .int a1]) (S := []) (z := (zS I J tg)) rfl c2 ?_
      refine Runs.sN 3 (c' := (24, [.ref 93, .int a1], [.int (I 93 12)], (zS I J tg))) rfl ?_
      subst h
      exact Runs.rt rfl
    · rw [if_neg c2] at h
      refine Runs.brF (P := a1 = 1) (a := 16) (b := 23) (L := [.ref 93, .int a1]) (S := []) (z := (zS I J tg)) rfl c2 ?_
      refine Runs.sN 1 (c' := (24, [.ref 93, .int a1], [.int (-1)], (zS I J tg))) rfl ?_
      subst h
      exact Runs.rt rfl
-- X12_by 
theorem sg_235 {L d : Nat} {xs : Nat → Int32} (I : Nat → Nat → Int32) (J : Nat → Nat → Int64) (tg : Option Nat) (a1 : Int32) {r : Option Value × SS} (h : (∃ (v4 : Int32) (I5 : Nat → Nat → Int32) (J6 : Nat → Nat → Int64), Runs (GW L xs) d 177 (0, [.int a1, .int (-1), .int ((I 94 3) - 1)], [], (zS I J tg)) ((some (.int v4)), (zS I5 J6 tg)) ∧ (if v4 = 0 then (r = (some (.int 0), (zS I5 J6 tg))) else (r = (some (.int 1), (zS (up2 I5 94 4 a1) J6 tg)))))) : Runs (GW L xs) (d + 1) 235 (0, [.ref 93, .int a1], [], (zS I J tg)) r := by
  refine Runs.sN 8 (c' := (10, [.ref 93, .int a1], [.int ((I 94 3) - 1), .int (-1), .int a1], (zS I J tg))) rfl ?_
  obtain ⟨v4, I5, J6, c7, h⟩ := h
  refine Runs.cl (cm := 177) (as := [.int a1, .int (-1), .int ((I 94 3) - 1)]) (rest := []) (r1 := ((some (.int v4)), (zS I5 J6 tg))) rfl (Nat.le_of_ble_eq_true rfl) c7 ?_
  refine Runs.as (c' := (13, [.ref 93, .int a1], [.int v4], (zS I5 J6 tg))) rfl ?_
  by_cases c8 : v4 = 0
  · rw [if_pos c8] at h
    refine Runs.brT (P := v4 = 0) (a := 16) (b := 18) (L := [.ref 93, .int a1]) (S := []) (z := (zS I5 J6 tg)) rfl c8 ?_
    refine Runs.sN 1 (c' := (17, [.ref 93, .int a1], [.int 0], (zS I5 J6 tg))) rfl ?_
    subst h
    exact Runs.rt rfl
  · rw [if_neg c8] at h
    refine Runs.brF (P := v4 = 0) (a := 16) (b := 18) (L := [.ref 93, .int a1]) (S := []) (z := (zS I5 J6 tg)) rfl c8 ?_
    refine Runs.sN 6 (c' := (26, [.ref 93, .int a1], [.int 1], (zS (up2 I5 94 4 a1) J6 tg))) rfl ?_
    subst h
    exact Runs.rt rfl
-- X12_held 
theorem sg_236 {L d : Nat} {xs : Nat → Int32} (I : Nat → Nat → Int32) (J : Nat → Nat → Int64) (tg : Option Nat) (a1 : Int64) {r : Option Value × SS} (h : ((if (lg_cmp a1 1000000) ≤ 0 then ((if 0 ≤ (lg_cmp a1 (-1000000)) then (r = (some (.long a1), (zS I J tg))) else (r = (some (.long (-1000000)), (zS I J tg))))) else (r = (some (.long 1000000), (zS I J tg)))))) : Runs (GW L xs) d 236 (0, [.long a1, vU], [], (zS I J tg)) r := by
  refine Runs.sN 3 (c' := (5, [.long a1, vU], [.int (lg_cmp a1 1000000)], (zS I J tg))) rfl ?_
  by_cases c1 : (lg_cmp a1 1000000) ≤ 0
  · rw [if_pos c1] at h
    refine Runs.brT (P := (lg_cmp a1 1000000) ≤ 0) (a := 14) (b := 8) (L := [.long a1, vU]) (S := []) (z := (zS I J tg)) rfl c1 ?_
    refine Runs.sN 3 (c' := (19, [.long a1, vU], [.int (lg_cmp a1 (-1000000))], (zS I J tg))) rfl ?_
    by_cases c2 : 0 ≤ (lg_cmp a1 (-1000000))
    · rw [if_pos c2] at h
      refine Runs.brT (P := 0 ≤ (lg_cmp a1 (-1000000))) (a := 28) (b := 22) (L := [.long a1, vU]) (S := []) (z := (zS I J tg)) rfl c2 ?_
      refine Runs.sN 1 (c' := (29, [.long a1, vU], [.long a1], (zS I J tg))) rfl ?_
      subst h
      exact Runs.rt rfl
    · rw [if_neg c2] at h
      refine Runs.brF (P := 0 ≤ (lg_cmp a1 (-1000000))) (a := 28) (b := 22) (L := [.long a1, vU]) (S := []) (z := (zS I J tg)) rfl c2 ?_
      refine Runs.sN 2 (c' := (29, [.long a1, vU], [.long (-1000000)], (zS I J tg))) rfl ?_
      subst h
      exact Runs.rt rfl
  · rw [if_neg c1] at h
    refine Runs.brF (P := (lg_cmp a1 1000000) ≤ 0) (a := 14) (b := 8) (L := [.long a1, vU]) (S := []) (z := (zS I J tg)) rfl c1 ?_
    refine Runs.sN 2 (c' := (29, [.long a1, vU], [.long 1000000], (zS I J tg))) rfl ?_
    subst h
    exact Runs.rt rfl
-- X12_two 
theorem sg_237 {L d : Nat} {xs : Nat → Int32} (I : Nat → Nat → Int32) (J : Nat → Nat → Int64) (tg : Option Nat) (a1 : Int32) (a2 : Int64) (a3 : Int64) {r : Option Value × SS} (h : ((if a1 = 3 then (∃ (v10 : Int64) (I11 : Nat → Nat → Int32) (J12 : Nat → Nat → Int64), Runs (GW L xs) d 236 (0, [.long (a2 + a3), vU], [], (zS I J tg)) ((some (.long v10)), (zS I11 J12 tg)) ∧ r = (some (.long v10), (zS I11 J12 tg))) else ((if a1 = 4 then (∃ (v13 : Int64) (I14 : Nat → Nat → Int32) (J15 : Nat → Nat → Int64), Runs (GW L xs) d 236 (0, [.long (a2 - a3), vU], [], (zS I J tg)) ((some (.long v13)), (zS I14 J15 tg)) ∧ r = (some (.long v13), (zS I14 J15 tg))) else (∃ (v16 : Int64) (I17 : Nat → Nat → Int32) (J18 : Nat → Nat → Int64), Runs (GW L xs) d 236 (0, [.long (a2 * a3), vU], [], (zS I J tg)) ((some (.long v16)), (zS I17 J18 tg)) ∧ r = (some (.long v16), (zS I17 J18 tg)))))))) : Runs (GW L xs) (d + 1) 237 (0, [.int a1, .long a2, vU, .long a3, vU], [], (zS I J tg)) r := by
  refine Runs.sN 2 (c' := (2, [.int a1, .long a2, vU, .long a3, vU], [.int 3, .int a1], (zS I J tg))) rfl ?_
  by_cases c19 : a1 = 3
  · rw [if_pos c19] at h
    refine Runs.brT (P := a1 = 3) (a := 5) (b := 11) (L := [.int a1, .long a2, vU, .long a3, vU]) (S := []) (z := (zS I J tg)) rfl c19 ?_
    refine Runs.sN 4 (c' := (25, [.int a1, .long a2, vU, .long a3, vU], [.long (a2 + a3)], (zS I J tg))) rfl ?_
    obtain ⟨v10, I11, J12, c20, h⟩ := h
    refine Runs.cl (cm := 236) (as := [.long (a2 + a3)]) (rest := []) (r1 := ((some (.long v10)), (zS I11 J12 tg))) rfl (Nat.le_of_ble_eq_true rfl) c20 ?_
    refine Runs.as (c' := (28, [.int a1, .long a2, vU, .long a3, vU], [.long v10], (zS I11 J12 tg))) rfl ?_
    subst h
    exact Runs.rt rfl
  · rw [if_neg c19] at h
    refine Runs.brF (P := a1 = 3) (a := 5) (b := 11) (L := [.int a1, .long a2, vU, .long a3, vU]) (S := []) (z := (zS I J tg)) rfl c19 ?_
    refine Runs.sN 2 (c' := (13, [.int a1, .long a2, vU, .long a3, vU], [.int 4, .int a1], (zS I J tg))) rfl ?_
    by_cases c21 : a1 = 4
    · rw [if_pos c21] at h
      refine Runs.brT (P := a1 = 4) (a := 16) (b := 22) (L := [.int a1, .long a2, vU, .long a3, vU]) (S := []) (z := (zS I J tg)) rfl c21 ?_
      refine Runs.sN 4 (c' := (25, [.int a1, .long a2, vU, .long a3, vU], [.long (a2 - a3)], (zS I J tg))) rfl ?_
      obtain ⟨v13, I14, J15, c22, h⟩ := h
      refine Runs.cl (cm := 236) (as := [.long (a2 - a3)]) (rest := []) (r1 := ((some (.long v13)), (zS I14 J15 tg))) rfl (Nat.le_of_ble_eq_true rfl) c22 ?_
      refine Runs.as (c' := (28, [.int a1, .long a2, vU, .long a3, vU], [.long v13], (zS I14 J15 tg))) rfl ?_
      subst h
      exact Runs.rt rfl
    · rw [if_neg c21] at h
      refine Runs.brF (P := a1 = 4) (a := 16) (b := 22) (L := [.int a1, .long a2, vU, .long a3, vU]) (S := []) (z := (zS I J tg)) rfl c21 ?_
      refine Runs.sN 3 (c' := (25, [.int a1, .long a2, vU, .long a3, vU], [.long (a2 * a3)], (zS I J tg))) rfl ?_
      obtain ⟨v16, I17, J18, c23, h⟩ := h
      refine Runs.cl (cm := 236) (as := [.long (a2 * a3)]) (rest := []) (r1 := ((some (.long v16)), (zS I17 J18 tg))) rfl (Nat.le_of_ble_eq_true rfl) c23 ?_
      refine Runs.as (c' := (28, [.int a1, .long a2, vU, .long a3, vU], [.long v16], (zS I17 J18 tg))) rfl ?_
      subst h
      exact Runs.rt rfl
-- X12_isAsked 
theorem sg_238 {L d : Nat} {xs : Nat → Int32} (I : Nat → Nat → Int32) (J : Nat → Nat → Int64) (tg : Option Nat) (a1 : Int32) (a2 : Int64) (a3 : Int64) {r : Option Value × SS} (h : ((if a1 = 10 then ((if 0 ≤ (lg_cmp a2 a3) then (r = (some (.int 0), (zS I J tg))) else (r = (some (.int 1), (zS I J tg))))) else ((if a1 = 11 then ((if 0 < (lg_cmp a2 a3) then (r = (some (.int 0), (zS I J tg))) else (r = (some (.int 1), (zS I J tg))))) else ((if a1 = 12 then ((if (lg_cmp a2 a3) ≤ 0 then (r = (some (.int 0), (zS I J tg))) else (r = (some (.int 1), (zS I J tg))))) else ((if a1 = 13 then ((if (lg_cmp a2 a3) < 0 then (r = (some (.int 0), (zS I J tg))) else (r = (some (.int 1), (zS I J tg))))) else ((if a1 = 14 then ((if (lg_cmp a2 a3) = 0 then (r = (some (.int 1), (zS I J tg))) else (r = (some (.int 0), (zS I J tg))))) else ((if (lg_cmp a2 a3) = 0 then (r = (some (.int 0), (zS I J tg))) else (r = (some (.int 1), (zS I J tg)))))))))))))))) : Runs (GW L xs) d 238 (0, [.int a1, .long a2, vU, .long a3, vU], [], (zS I J tg)) r := by
  refine Runs.sN 2 (c' := (3, [.int a1, .long a2, vU, .long a3, vU], [.int 10, .int a1], (zS I J tg))) rfl ?_
  by_cases c1 : a1 = 10
  · rw [if_pos c1] at h
    refine Runs.brT (P := a1 = 10) (a := 6) (b := 20) (L := [.int a1, .long a2, vU, .long a3, vU]) (S := []) (z := (zS I J tg)) rfl c1 ?_
    refine Runs.sN 3 (c' := (9, [.int a1, .long a2, vU, .long a3, vU], [.int (lg_cmp a2 a3)], (zS I J tg))) rfl ?_
    by_cases c2 : 0 ≤ (lg_cmp a2 a3)
    · rw [if_pos c2] at h
      refine Runs.brT (P := 0 ≤ (lg_cmp a2 a3)) (a := 16) (b := 12) (L := [.int a1, .long a2, vU, .long a3, vU]) (S := []) (z := (zS I J tg)) rfl c2 ?_
      refine Runs.sN 2 (c' := (111, [.int a1, .long a2, vU, .long a3, vU], [.int 0], (zS I J tg))) rfl ?_
      subst h
      exact Runs.rt rfl
    · rw [if_neg c2] at h
      refine Runs.brF (P := 0 ≤ (lg_cmp a2 a3)) (a := 16) (b := 12) (L := [.int a1, .long a2, vU, .long a3, vU]) (S := []) (z := (zS I J tg)) rfl c2 ?_
      refine Runs.sN 2 (c' := (111, [.int a1, .long a2, vU, .long a3, vU], [.int 1], (zS I J tg))) rfl ?_
      subst h
      exact Runs.rt rfl
  · rw [if_neg c1] at h
    refine Runs.brF (P := a1 = 10) (a := 6) (b := 20) (L := [.int a1, .long a2, vU, .long a3, vU]) (S := []) (z := (zS I J tg)) rfl c1 ?_
    refine Runs.sN 2 (c' := (23, [.int a1, .long a2, vU, .long a3, vU], [.int 11, .int a1], (zS I J tg))) rfl ?_
    by_cases c3 : a1 = 11
    · rw [if_pos c3] at h
      refine Runs.brT (P := a1 = 11) (a := 26) (b := 40) (L := [.int a1, .long a2, vU, .long a3, vU]) (S := []) (z := (zS I J tg)) rfl c3 ?_
      refine Runs.sN 3 (c' := (29, [.int a1, .long a2, vU, .long a3, vU], [.int (lg_cmp a2 a3)], (zS I J tg))) rfl ?_
      by_cases c4 : 0 < (lg_cmp a2 a3)
      · rw [if_pos c4] at h
        refine Runs.brT (P := 0 < (lg_cmp a2 a3)) (a := 36) (b := 32) (L := [.int a1, .long a2, vU, .long a3, vU]) (S := []) (z := (zS I J tg)) rfl c4 ?_
        refine Runs.sN 2 (c' := (111, [.int a1, .long a2, vU, .long a3, vU], [.int 0], (zS I J tg))) rfl ?_
        subst h
        exact Runs.rt rfl
      · rw [if_neg c4] at h
        refine Runs.brF (P := 0 < (lg_cmp a2 a3)) (a := 36) (b := 32) (L := [.int a1, .long a2, vU, .long a3, vU]) (S := []) (z := (zS I J tg)) rfl c4 ?_
        refine Runs.sN 2 (c' := (111, [.int a1, .long a2, vU, .long a3, vU], [.int 1], (zS I J tg))) rfl ?_
        subst h
        exact Runs.rt rfl
    · rw [if_neg c3] at h
      refine Runs.brF (P := a1 = 11) (a := 26) (b := 40) (L := [.int a1, .long a2, vU, .long a3, vU]) (S := []) (z := (zS I J tg)) rfl c3 ?_
      refine Runs.sN 2 (c' := (43, [.int a1, .long a2, vU, .long a3, vU], [.int 12, .int a1], (zS I J tg))) rfl ?_
      by_cases c5 : a1 = 12
      · rw [if_pos c5] at h
        refine Runs.brT (P := a1 = 12) (a := 46) (b := 60) (L := [.int a1, .long a2, vU, .long a3, vU]) (S := []) (z := (zS I J tg)) rfl c5 ?_
        refine Runs.sN 3 (c' := (49, [.int a1, .long a2, vU, .long a3, vU], [.int (lg_cmp a2 a3)], (zS I J tg))) rfl ?_
        by_cases c6 : (lg_cmp a2 a3) ≤ 0
        · rw [if_pos c6] at h
          refine Runs.brT (P := (lg_cmp a2 a3) ≤ 0) (a := 56) (b := 52) (L := [.int a1, .long a2, vU, .long a3, vU]) (S := []) (z := (zS I J tg)) rfl c6 ?_
          refine Runs.sN 2 (c' := (111, [.int a1, .long a2, vU, .long a3, vU], [.int 0], (zS I J tg))) rfl ?_
          subst h
          exact Runs.rt rfl
        · rw [if_neg c6] at h
          refine Runs.brF (P := (lg_cmp a2 a3) ≤ 0) (a := 56) (b := 52) (L := [.int a1, .long a2, vU, .long a3, vU]) (S := []) (z := (zS I J tg)) rfl c6 ?_
          refine Runs.sN 2 (c' := (111, [.int a1, .long a2, vU, .long a3, vU], [.int 1], (zS I J tg))) rfl ?_
          subst h
          exact Runs.rt rfl
      · rw [if_neg c5] at h
        refine Runs.brF (P := a1 = 12) (a := 46) (b := 60) (L := [.int a1, .long a2, vU, .long a3, vU]) (S := []) (z := (zS I J tg)) rfl c5 ?_
        refine Runs.sN 2 (c' := (63, [.int a1, .long a2, vU, .long a3, vU], [.int 13, .int a1], (zS I J tg))) rfl ?_
        by_cases c7 : a1 = 13
        · rw [if_pos c7] at h
          refine Runs.brT (P := a1 = 13) (a := 66) (b := 80) (L := [.int a1, .long a2, vU, .long a3, vU]) (S := []) (z := (zS I J tg)) rfl c7 ?_
          refine Runs.sN 3 (c' := (69, [.int a1, .long a2, vU, .long a3, vU], [.int (lg_cmp a2 a3)], (zS I J tg))) rfl ?_
          by_cases c8 : (lg_cmp a2 a3) < 0
          · rw [if_pos c8] at h
            refine Runs.brT (P := (lg_cmp a2 a3) < 0) (a := 76) (b := 72) (L := [.int a1, .long a2, vU, .long a3, vU]) (S := []) (z := (zS I J tg)) rfl c8 ?_
            refine Runs.sN 2 (c' := (111, [.int a1, .long a2, vU, .long a3, vU], [.int 0], (zS I J tg))) rfl ?_
            subst h
            exact Runs.rt rfl
          · rw [if_neg c8] at h
            refine Runs.brF (P := (lg_cmp a2 a3) < 0) (a := 76) (b := 72) (L := [.int a1, .long a2, vU, .long a3, vU]) (S := []) (z := (zS I J tg)) rfl c8 ?_
            refine Runs.sN 2 (c' := (111, [.int a1, .long a2, vU, .long a3, vU], [.int 1], (zS I J tg))) rfl ?_
            subst h
            exact Runs.rt rfl
        · rw [if_neg c7] at h
          refine Runs.brF (P := a1 = 13) (a := 66) (b := 80) (L := [.int a1, .long a2, vU, .long a3, vU]) (S := []) (z := (zS I J tg)) rfl c7 ?_
          refine Runs.sN 2 (c' := (83, [.int a1, .long a2, vU, .long a3, vU], [.int 14, .int a1], (zS I J tg))) rfl ?_
          by_cases c9 : a1 = 14
          · rw [if_pos c9] at h
            refine Runs.brT (P := a1 = 14) (a := 86) (b := 100) (L := [.int a1, .long a2, vU, .long a3, vU]) (S := []) (z := (zS I J tg)) rfl c9 ?_
            refine Runs.sN 3 (c' := (89, [.int a1, .long a2, vU, .long a3, vU], [.int (lg_cmp a2 a3)], (zS I J tg))) rfl ?_
            by_cases c10 : (lg_cmp a2 a3) = 0
            · rw [if_pos c10] at h
              refine Runs.brT (P := (lg_cmp a2 a3) = 0) (a := 92) (b := 96) (L := [.int a1, .long a2, vU, .long a3, vU]) (S := []) (z := (zS I J tg)) rfl c10 ?_
              refine Runs.sN 2 (c' := (111, [.int a1, .long a2, vU, .long a3, vU], [.int 1], (zS I J tg))) rfl ?_
              subst h
              exact Runs.rt rfl
            · rw [if_neg c10] at h
              refine Runs.brF (P := (lg_cmp a2 a3) = 0) (a := 92) (b := 96) (L := [.int a1, .long a2, vU, .long a3, vU]) (S := []) (z := (zS I J tg)) rfl c10 ?_
              refine Runs.sN 2 (c' := (111, [.int a1, .long a2, vU, .long a3, vU], [.int 0], (zS I J tg))) rfl ?_
              subst h
              exact Runs.rt rfl
          · rw [if_neg c9] at h
            refine Runs.brF (P := a1 = 14) (a := 86) (b := 100) (L := [.int a1, .long a2, vU, .long a3, vU]) (S := []) (z := (zS I J tg)) rfl c9 ?_
            refine Runs.sN 3 (c' := (103, [.int a1, .long a2, vU, .long a3, vU], [.int (lg_cmp a2 a3)], (zS I J tg))) rfl ?_
            by_cases c11 : (lg_cmp a2 a3) = 0
            · rw [if_pos c11] at h
              refine Runs.brT (P := (lg_cmp a2 a3) = 0) (a := 110) (b := 106) (L := [.int a1, .long a2, vU, .long a3, vU]) (S := []) (z := (zS I J tg)) rfl c11 ?_
              refine Runs.sN 1 (c' := (111, [.int a1, .long a2, vU, .long a3, vU], [.int 0], (zS I J tg))) rfl ?_
              subst h
              exact Runs.rt rfl
            · rw [if_neg c11] at h
              refine Runs.brF (P := (lg_cmp a2 a3) = 0) (a := 110) (b := 106) (L := [.int a1, .long a2, vU, .long a3, vU]) (S := []) (z := (zS I J tg)) rfl c11 ?_
              refine Runs.sN 2 (c' := (111, [.int a1, .long a2, vU, .long a3, vU], [.int 1], (zS I J tg))) rfl ?_
              subst h
              exact Runs.rt rfl
-- X12_work 
theorem sg_239 {L d : Nat} {xs : Nat → Int32} (I : Nat → Nat → Int32) (J : Nat → Nat → Int64) (tg : Option Nat) (a1 : Int32) (a2 : Int32) (a3 : Int32) {r : Option Value × SS} (h : (Runs (GW L xs) (d + 1) 239 (19, [.ref 93, .int a1, .int a2, .int a3, .int ((800 * a1) + 50), .int 0, .int 0, .int a2, vU, vU], [], (zS I J tg)) r)) : Runs (GW L xs) (d + 1) 239 (0, [.ref 93, .int a1, .int a2, .int a3, vU, vU, vU, vU, vU, vU], [], (zS I J tg)) r := by
  refine Runs.sN 12 (c' := (19, [.ref 93, .int a1, .int a2, .int a3, .int ((800 * a1) + 50), .int 0, .int 0, .int a2, vU, vU], [], (zS I J tg))) rfl ?_
  exact h
theorem sg_239_19 {L d : Nat} {xs : Nat → Int32} (I : Nat → Nat → Int32) (J : Nat → Nat → Int64) (tg : Option Nat) (x1 : Int32) (x2 : Int32) (x3 : Int32) (x4 : Int32) (x5 : Int32) (x6 : Int32) (x7 : Int32) {r : Option Value × SS} (h : ((if x3 ≤ x7 then (r = (none, (zS I J tg))) else (¬ ((x4 + (2 * x7)) < 0 ∨ 3200 ≤ (x4 + (2 * x7)).toNatClampNeg) ∧ ¬ (((x4 + (2 * x7)) + 1) < 0 ∨ 3200 ≤ ((x4 + (2 * x7)) + 1).toNatClampNeg) ∧ (if 1 < (I 96 ((x4 + (2 * x7)).toNatClampNeg)) then ((if (I 96 ((x4 + (2 * x7)).toNatClampNeg)) = 2 then (¬ ((x5 - 1) < 0 ∨ 330 ≤ (x5 - 1).toNatClampNeg) ∧ ¬ ((x5 - 1) < 0 ∨ 330 ≤ (x5 - 1).toNatClampNeg) ∧ Runs (GW L xs) (d + 1) 239 (19, [.ref 93, .int x1, .int x2, .int x3, .int x4, .int x5, .int x6, .int (x7 + 1), vU, vU], [], (zS I (up2 J 104 (x5 - 1).toNatClampNeg (-(J 104 (x5 - 1).toNatClampNeg))) tg)) r) else ((if 10 ≤ (I 96 ((x4 + (2 * x7)).toNatClampNeg)) then ((if 21 ≤ (I 96 ((x4 + (2 * x7)).toNatClampNeg)) then ((if (I 96 ((x4 + (2 * x7)).toNatClampNeg)) = 21 then (¬ (((x6 + (-1)) - 1) < 0 ∨ 330 ≤ ((x6 + (-1)) - 1).toNatClampNeg) ∧ (if (I 105 (((x6 + (-1)) - 1).toNatClampNeg)) = 0 then (¬ (((x6 + (-1)) - 1) < 0 ∨ 330 ≤ ((x6 + (-1)) - 1).toNatClampNeg) ∧ ((0 : Int32) = 0 ∨ (0 : Int32) = 1) ∧ Runs (GW L xs) (d + 1) 239 (19, [.ref 93, .int x1, .int x2, .int x3, .int x4, .int x5, .int (x6 + (-1)), .int (x7 + 1), vU, vU], [], (zS (up2 I 105 (((x6 + (-1)) - 1).toNatClampNeg) 0) J tg)) r) else (¬ ((x6 + (-1)) < 0 ∨ 330 ≤ (x6 + (-1)).toNatClampNeg) ∧ (if (I 105 ((x6 + (-1)).toNatClampNeg)) = 0 then (¬ (((x6 + (-1)) - 1) < 0 ∨ 330 ≤ ((x6 + (-1)) - 1).toNatClampNeg) ∧ ((0 : Int32) = 0 ∨ (0 : Int32) = 1) ∧ Runs (GW L xs) (d + 1) 239 (19, [.ref 93, .int x1, .int x2, .int x3, .int x4, .int x5, .int (x6 + (-1)), .int (x7 + 1), vU, vU], [], (zS (up2 I 105 (((x6 + (-1)) - 1).toNatClampNeg) 0) J tg)) r) else (¬ (((x6 + (-1)) - 1) < 0 ∨ 330 ≤ ((x6 + (-1)) - 1).toNatClampNeg) ∧ ((1 : Int32) = 0 ∨ (1 : Int32) = 1) ∧ Runs (GW L xs) (d + 1) 239 (19, [.ref 93, .int x1, .int x2, .int x3, .int x4, .int x5, .int (x6 + (-1)), .int (x7 + 1), vU, vU], [], (zS (up2 I 105 (((x6 + (-1)) - 1).toNatClampNeg) 1) J tg)) r))))) else (¬ (((x6 + (-1)) - 1) < 0 ∨ 330 ≤ ((x6 + (-1)) - 1).toNatClampNeg) ∧ (if (I 105 (((x6 + (-1)) - 1).toNatClampNeg)) = 0 then (¬ ((x6 + (-1)) < 0 ∨ 330 ≤ (x6 + (-1)).toNatClampNeg) ∧ (if (I 105 ((x6 + (-1)).toNatClampNeg)) = 0 then (¬ (((x6 + (-1)) - 1) < 0 ∨ 330 ≤ ((x6 + (-1)) - 1).toNatClampNeg) ∧ ((0 : Int32) = 0 ∨ (0 : Int32) = 1) ∧ Runs (GW L xs) (d + 1) 239 (19, [.ref 93, .int x1, .int x2, .int x3, .int x4, .int x5, .int (x6 + (-1)), .int (x7 + 1), vU, vU], [], (zS (up2 I 105 (((x6 + (-1)) - 1).toNatClampNeg) 0) J tg)) r) else (¬ (((x6 + (-1)) - 1) < 0 ∨ 330 ≤ ((x6 + (-1)) - 1).toNatClampNeg) ∧ ((1 : Int32) = 0 ∨ (1 : Int32) = 1) ∧ Runs (GW L xs) (d + 1) 239 (19, [.ref 93, .int x1, .int x2, .int x3, .int x4, .int x5, .int (x6 + (-1)), .int (x7 + 1), vU, vU], [], (zS (up2 I 105 (((x6 + (-1)) - 1).toNatClampNeg) 1) J tg)) r))) else (¬ (((x6 + (-1)) - 1) < 0 ∨ 330 ≤ ((x6 + (-1)) - 1).toNatClampNeg) ∧ ((1 : Int32) = 0 ∨ (1 : Int32) = 1) ∧ Runs (GW L xs) (d + 1) 239 (19, [.ref 93, .int x1, .int x2, .int x3, .int x4, .int x5, .int (x6 + (-1)), .int (x7 + 1), vU, vU], [], (zS (up2 I 105 (((x6 + (-1)) - 1).toNatClampNeg) 1) J tg)) r))))) else (¬ ((x5 + (-2)) < 0 ∨ 330 ≤ (x5 + (-2)).toNatClampNeg) ∧ ¬ (((x5 + (-2)) + 1) < 0 ∨ 330 ≤ ((x5 + (-2)) + 1).toNatClampNeg) ∧ ∃ (v1 : Int32) (I2 : Nat → Nat → Int32) (J3 : Nat → Nat → Int64), Runs (GW L xs) d 238 (0, [.int (I 96 ((x4 + (2 * x7)).toNatClampNeg)), .long (J 104 (x5 + (-2)).toNatClampNeg), vU, .long (J 104 ((x5 + (-2)) + 1).toNatClampNeg), vU], [], (zS I J tg)) ((some (.int v1)), (zS I2 J3 tg)) ∧ ¬ (x6 < 0 ∨ 330 ≤ (x6).toNatClampNeg) ∧ (v1 = 0 ∨ v1 = 1) ∧ Runs (GW L xs) (d + 1) 239 (19, [.ref 93, .int x1, .int x2, .int x3, .int x4, .int (x5 + (-2)), .int (x6 + 1), .int (x7 + 1), vU, vU], [], (zS (up2 I2 105 ((x6).toNatClampNeg) v1) J3 tg)) r))) else (¬ (((x5 + (-1)) - 1) < 0 ∨ 330 ≤ ((x5 + (-1)) - 1).toNatClampNeg) ∧ ¬ ((x5 + (-1)) < 0 ∨ 330 ≤ (x5 + (-1)).toNatClampNeg) ∧ ∃ (v4 : Int64) (I5 : Nat → Nat → Int32) (J6 : Nat → Nat → Int64), Runs (GW L xs) d 237 (0, [.int (I 96 ((x4 + (2 * x7)).toNatClampNeg)), .long (J 104 ((x5 + (-1)) - 1).toNatClampNeg), vU, .long (J 104 (x5 + (-1)).toNatClampNeg), vU], [], (zS I J tg)) ((some (.long v4)), (zS I5 J6 tg)) ∧ ¬ (((x5 + (-1)) - 1) < 0 ∨ 330 ≤ ((x5 + (-1)) - 1).toNatClampNeg) ∧ Runs (GW L xs) (d + 1) 239 (19, [.ref 93, .int x1, .int x2, .int x3, .int x4, .int (x5 + (-1)), .int x6, .int (x7 + 1), vU, vU], [], (zS I5 (up2 J6 104 ((x5 + (-1)) - 1).toNatClampNeg v4) tg)) r))))) else ((if (I 96 ((x4 + (2 * x7)).toNatClampNeg)) = 0 then (¬ (x5 < 0 ∨ 330 ≤ (x5).toNatClampNeg) ∧ Runs (GW L xs) (d + 1) 239 (19, [.ref 93, .int x1, .int x2, .int x3, .int x4, .int (x5 + 1), .int x6, .int (x7 + 1), vU, vU], [], (zS I (up2 J 104 (x5).toNatClampNeg (Int32.toInt64 (I 96 (((x4 + (2 * x7)) + 1).toNatClampNeg)))) tg)) r) else (¬ ((I 96 (((x4 + (2 * x7)) + 1).toNatClampNeg)) < 0 ∨ 12 ≤ (I 96 (((x4 + (2 * x7)) + 1).toNatClampNeg)).toNatClampNeg) ∧ ¬ (x5 < 0 ∨ 330 ≤ (x5).toNatClampNeg) ∧ Runs (GW L xs) (d + 1) 239 (19, [.ref 93, .int x1, .int x2, .int x3, .int x4, .int (x5 + 1), .int x6, .int (x7 + 1), vU, vU], [], (zS I (up2 J 104 (x5).toNatClampNeg (Int32.toInt64 (I 103 ((I 96 (((x4 + (2 * x7)) + 1).toNatClampNeg)).toNatClampNeg)))) tg)) r)))))))) : Runs (GW L xs) (d + 1) 239 (19, [.ref 93, .int x1, .int x2, .int x3, .int x4, .int x5, .int x6, .int x7, vU, vU], [], (zS I J tg)) r := by
  refine Runs.sN 2 (c' := (22, [.ref 93, .int x1, .int x2, .int x3, .int x4, .int x5, .int x6, .int x7, vU, vU], [.int x3, .int x7], (zS I J tg))) rfl ?_
  by_cases c7 : x3 ≤ x7
  · rw [if_pos c7] at h
    refine Runs.brT (P := x3 ≤ x7) (a := 290) (b := 25) (L := [.ref 93, .int x1, .int x2, .int x3, .int x4, .int x5, .int x6, .int x7, vU, vU]) (S := []) (z := (zS I J tg)) rfl c7 ?_
    subst h
    exact Runs.rt rfl
  · rw [if_neg c7] at h
    refine Runs.brF (P := x3 ≤ x7) (a := 290) (b := 25) (L := [.ref 93, .int x1, .int x2, .int x3, .int x4, .int x5, .int x6, .int x7, vU, vU]) (S := []) (z := (zS I J tg)) rfl c7 ?_
    refine Runs.sN 7 (c' := (36, [.ref 93, .int x1, .int x2, .int x3, .int x4, .int x5, .int x6, .int x7, vU, vU], [.int (x4 + (2 * x7)), .ref 96], (zS I J tg))) rfl ?_
    obtain ⟨c8, h⟩ := h
    refine Runs.to (c' := (37, [.ref 93, .int x1, .int x2, .int x3, .int x4, .int x5, .int x6, .int x7, vU, vU], [.int (I 96 ((x4 + (2 * x7)).toNatClampNeg))], (zS I J tg))) (Runs.ild rfl (show (96 : Nat) < 114 by decide) rfl c8) ?_
    refine Runs.sN 10 (c' := (52, [.ref 93, .int x1, .int x2, .int x3, .int x4, .int x5, .int x6, .int x7, .int (I 96 ((x4 + (2 * x7)).toNatClampNeg)), vU], [.int ((x4 + (2 * x7)) + 1), .ref 96], (zS I J tg))) rfl ?_
    obtain ⟨c9, h⟩ := h
    refine Runs.to (c' := (53, [.ref 93, .int x1, .int x2, .int x3, .int x4, .int x5, .int x6, .int x7, .int (I 96 ((x4 + (2 * x7)).toNatClampNeg)), vU], [.int (I 96 (((x4 + (2 * x7)) + 1).toNatClampNeg))], (zS I J tg))) (Runs.ild rfl (show (96 : Nat) < 114 by decide) rfl c9) ?_
    refine Runs.sN 3 (c' := (58, [.ref 93, .int x1, .int x2, .int x3, .int x4, .int x5, .int x6, .int x7, .int (I 96 ((x4 + (2 * x7)).toNatClampNeg)), .int (I 96 (((x4 + (2 * x7)) + 1).toNatClampNeg))], [.int 1, .int (I 96 ((x4 + (2 * x7)).toNatClampNeg))], (zS I J tg))) rfl ?_
    by_cases c10 : 1 < (I 96 ((x4 + (2 * x7)).toNatClampNeg))
    · rw [if_pos c10] at h
      refine Runs.brT (P := 1 < (I 96 ((x4 + (2 * x7)).toNatClampNeg))) (a := 93) (b := 61) (L := [.ref 93, .int x1, .int x2, .int x3, .int x4, .int x5, .int x6, .int x7, .int (I 96 ((x4 + (2 * x7)).toNatClampNeg)), .int (I 96 (((x4 + (2 * x7)) + 1).toNatClampNeg))]) (S := []) (z := (zS I J tg)) rfl c10 ?_
      refine Runs.sN 2 (c' := (96, [.ref 93, .int x1, .int x2, .int x3, .int x4, .int x5, .int x6, .int x7, .int (I 96 ((x4 + (2 * x7)).toNatClampNeg)), .int (I 96 (((x4 + (2 * x7)) + 1).toNatClampNeg))], [.int 2, .int (I 96 ((x4 + (2 * x7)).toNatClampNeg))], (zS I J tg))) rfl ?_
      by_cases c11 : (I 96 ((x4 + (2 * x7)).toNatClampNeg)) = 2
      · rw [if_pos c11] at h
        refine Runs.brT (P := (I 96 ((x4 + (2 * x7)).toNatClampNeg)) = 2) (a := 99) (b := 121) (L := [.ref 93, .int x1, .int x2, .int x3, .int x4, .int x5, .int x6, .int x7, .int (I 96 ((x4 + (2 * x7)).toNatClampNeg)), .int (I 96 (((x4 + (2 * x7)) + 1).toNatClampNeg))]) (S := []) (z := (zS I J tg)) rfl c11 ?_
        refine Runs.sN 10 (c' := (115, [.ref 93, .int x1, .int x2, .int x3, .int x4, .int x5, .int x6, .int x7, .int (I 96 ((x4 + (2 * x7)).toNatClampNeg)), .int (I 96 (((x4 + (2 * x7)) + 1).toNatClampNeg))], [.int (x5 - 1), .ref 104, .int (x5 - 1), .ref 104], (zS I J tg))) rfl ?_
        obtain ⟨c12, h⟩ := h
        refine Runs.to (c' := (116, [.ref 93, .int x1, .int x2, .int x3, .int x4, .int x5, .int x6, .int x7, .int (I 96 ((x4 + (2 * x7)).toNatClampNeg)), .int (I 96 (((x4 + (2 * x7)) + 1).toNatClampNeg))], [.long (J 104 (x5 - 1).toNatClampNeg), .int (x5 - 1), .ref 104], (zS I J tg))) (Runs.lld rfl (show (104 : Nat) < 114 by decide) rfl c12) ?_
        refine Runs.sN 1 (c' := (117, [.ref 93, .int x1, .int x2, .int x3, .int x4, .int x5, .int x6, .int x7, .int (I 96 ((x4 + (2 * x7)).toNatClampNeg)), .int (I 96 (((x4 + (2 * x7)) + 1).toNatClampNeg))], [.long (-(J 104 (x5 - 1).toNatClampNeg)), .int (x5 - 1), .ref 104], (zS I J tg))) rfl ?_
        obtain ⟨c13, h⟩ := h
        refine Runs.to (c' := (118, [.ref 93, .int x1, .int x2, .int x3, .int x4, .int x5, .int x6, .int x7, .int (I 96 ((x4 + (2 * x7)).toNatClampNeg)), .int (I 96 (((x4 + (2 * x7)) + 1).toNatClampNeg))], [], (zS I (up2 J 104 (x5 - 1).toNatClampNeg (-(J 104 (x5 - 1).toNatClampNeg))) tg))) (Runs.lst rfl (show (104 : Nat) < 114 by decide) rfl c13) ?_
        refine Runs.sN 3 (c' := (19, [.ref 93, .int x1, .int x2, .int x3, .int x4, .int x5, .int x6, .int (x7 + 1), .int (I 96 ((x4 + (2 * x7)).toNatClampNeg)), .int (I 96 (((x4 + (2 * x7)) + 1).toNatClampNeg))], [], (zS I (up2 J 104 (x5 - 1).toNatClampNeg (-(J 104 (x5 - 1).toNatClampNeg))) tg))) rfl ?_
        exact Runs.weak (L := [.ref 93, .int x1, .int x2, .int x3, .int x4, .int x5, .int x6, .int (x7 + 1), vU, vU]) (Lle.k (Lle.k (Lle.k (Lle.k (Lle.k (Lle.k (Lle.k (Lle.k (Lle.u (Lle.u Lle.n)))))))))) h
      · rw [if_neg c11] at h
        refine Runs.brF (P := (I 96 ((x4 + (2 * x7)).toNatClampNeg)) = 2) (a := 99) (b := 121) (L := [.ref 93, .int x1, .int x2, .int x3, .int x4, .int x5, .int x6, .int x7, .int (I 96 ((x4 + (2 * x7)).toNatClampNeg)), .int (I 96 (((x4 + (2 * x7)) + 1).toNatClampNeg))]) (S := []) (z := (zS I J tg)) rfl c11 ?_
        refine Runs.sN 2 (c' := (125, [.ref 93, .int x1, .int x2, .int x3, .int x4, .int x5, .int x6, .int x7, .int (I 96 ((x4 + (2 * x7)).toNatClampNeg)), .int (I 96 (((x4 + (2 * x7)) + 1).toNatClampNeg))], [.int 10, .int (I 96 ((x4 + (2 * x7)).toNatClampNeg))], (zS I J tg))) rfl ?_
        by_cases c14 : 10 ≤ (I 96 ((x4 + (2 * x7)).toNatClampNeg))
        · rw [if_pos c14] at h
          refine Runs.brT (P := 10 ≤ (I 96 ((x4 + (2 * x7)).toNatClampNeg))) (a := 164) (b := 128) (L := [.ref 93, .int x1, .int x2, .int x3, .int x4, .int x5, .int x6, .int x7, .int (I 96 ((x4 + (2 * x7)).toNatClampNeg)), .int (I 96 (((x4 + (2 * x7)) + 1).toNatClampNeg))]) (S := []) (z := (zS I J tg)) rfl c14 ?_
          refine Runs.sN 2 (c' := (168, [.ref 93, .int x1, .int x2, .int x3, .int x4, .int x5, .int x6, .int x7, .int (I 96 ((x4 + (2 * x7)).toNatClampNeg)), .int (I 96 (((x4 + (2 * x7)) + 1).toNatClampNeg))], [.int 21, .int (I 96 ((x4 + (2 * x7)).toNatClampNeg))], (zS I J tg))) rfl ?_
          by_cases c15 : 21 ≤ (I 96 ((x4 + (2 * x7)).toNatClampNeg))
          · rw [if_pos c15] at h
            refine Runs.brT (P := 21 ≤ (I 96 ((x4 + (2 * x7)).toNatClampNeg))) (a := 208) (b := 171) (L := [.ref 93, .int x1, .int x2, .int x3, .int x4, .int x5, .int x6, .int x7, .int (I 96 ((x4 + (2 * x7)).toNatClampNeg)), .int (I 96 (((x4 + (2 * x7)) + 1).toNatClampNeg))]) (S := []) (z := (zS I J tg)) rfl c15 ?_
            refine Runs.sN 8 (c' := (223, [.ref 93, .int x1, .int x2, .int x3, .int x4, .int x5, .int (x6 + (-1)), .int x7, .int (I 96 ((x4 + (2 * x7)).toNatClampNeg)), .int (I 96 (((x4 + (2 * x7)) + 1).toNatClampNeg))], [.int 21, .int (I 96 ((x4 + (2 * x7)).toNatClampNeg)), .int ((x6 + (-1)) - 1), .ref 105], (zS I J tg))) rfl ?_
            by_cases c16 : (I 96 ((x4 + (2 * x7)).toNatClampNeg)) = 21
            · rw [if_pos c16] at h
              refine Runs.brT (P := (I 96 ((x4 + (2 * x7)).toNatClampNeg)) = 21) (a := 226) (b := 256) (L := [.ref 93, .int x1, .int x2, .int x3, .int x4, .int x5, .int (x6 + (-1)), .int x7, .int (I 96 ((x4 + (2 * x7)).toNatClampNeg)), .int (I 96 (((x4 + (2 * x7)) + 1).toNatClampNeg))]) (S := [.int ((x6 + (-1)) - 1), .ref 105]) (z := (zS I J tg)) rfl c16 ?_
              refine Runs.sN 5 (c' := (234, [.ref 93, .int x1, .int x2, .int x3, .int x4, .int x5, .int (x6 + (-1)), .int x7, .int (I 96 ((x4 + (2 * x7)).toNatClampNeg)), .int (I 96 (((x4 + (2 * x7)) + 1).toNatClampNeg))], [.int ((x6 + (-1)) - 1), .ref 105, .int ((x6 + (-1)) - 1), .ref 105], (zS I J tg))) rfl ?_
              obtain ⟨c17, h⟩ := h
              refine Runs.to (c' := (235, [.ref 93, .int x1, .int x2, .int x3, .int x4, .int x5, .int (x6 + (-1)), .int x7, .int (I 96 ((x4 + (2 * x7)).toNatClampNeg)), .int (I 96 (((x4 + (2 * x7)) + 1).toNatClampNeg))], [.int (I 105 (((x6 + (-1)) - 1).toNatClampNeg)), .int ((x6 + (-1)) - 1), .ref 105], (zS I J tg))) (Runs.zld rfl (show (105 : Nat) < 114 by decide) rfl c17) ?_
              by_cases c18 : (I 105 (((x6 + (-1)) - 1).toNatClampNeg)) = 0
              · rw [if_pos c18] at h
                refine Runs.brT (P := (I 105 (((x6 + (-1)) - 1).toNatClampNeg)) = 0) (a := 252) (b := 238) (L := [.ref 93, .int x1, .int x2, .int x3, .int x4, .int x5, .int (x6 + (-1)), .int x7, .int (I 96 ((x4 + (2 * x7)).toNatClampNeg)), .int (I 96 (((x4 + (2 * x7)) + 1).toNatClampNeg))]) (S := [.int ((x6 + (-1)) - 1), .ref 105]) (z := (zS I J tg)) rfl c18 ?_
                refine Runs.sN 2 (c' := (283, [.ref 93, .int x1, .int x2, .int x3, .int x4, .int x5, .int (x6 + (-1)), .int x7, .int (I 96 ((x4 + (2 * x7)).toNatClampNeg)), .int (I 96 (((x4 + (2 * x7)) + 1).toNatClampNeg))], [.int 0, .int ((x6 + (-1)) - 1), .ref 105], (zS I J tg))) rfl ?_
                obtain ⟨c19, h⟩ := h
                obtain ⟨c20, h⟩ := h
                refine Runs.to (c' := (284, [.ref 93, .int x1, .int x2, .int x3, .int x4, .int x5, .int (x6 + (-1)), .int x7, .int (I 96 ((x4 + (2 * x7)).toNatClampNeg)), .int (I 96 (((x4 + (2 * x7)) + 1).toNatClampNeg))], [], (zS (up2 I 105 (((x6 + (-1)) - 1).toNatClampNeg) 0) J tg))) (Runs.zst rfl (show (105 : Nat) < 114 by decide) rfl c19 c20) ?_
                refine Runs.sN 2 (c' := (19, [.ref 93, .int x1, .int x2, .int x3, .int x4, .int x5, .int (x6 + (-1)), .int (x7 + 1), .int (I 96 ((x4 + (2 * x7)).toNatClampNeg)), .int (I 96 (((x4 + (2 * x7)) + 1).toNatClampNeg))], [], (zS (up2 I 105 (((x6 + (-1)) - 1).toNatClampNeg) 0) J tg))) rfl ?_
                exact Runs.weak (L := [.ref 93, .int x1, .int x2, .int x3, .int x4, .int x5, .int (x6 + (-1)), .int (x7 + 1), vU, vU]) (Lle.k (Lle.k (Lle.k (Lle.k (Lle.k (Lle.k (Lle.k (Lle.k (Lle.u (Lle.u Lle.n)))))))))) h
              · rw [if_neg c18] at h
                refine Runs.brF (P := (I 105 (((x6 + (-1)) - 1).toNatClampNeg)) = 0) (a := 252) (b := 238) (L := [.ref 93, .int x1, .int x2, .int x3, .int x4, .int x5, .int (x6 + (-1)), .int x7, .int (I 96 ((x4 + (2 * x7)).toNatClampNeg)), .int (I 96 (((x4 + (2 * x7)) + 1).toNatClampNeg))]) (S := [.int ((x6 + (-1)) - 1), .ref 105]) (z := (zS I J tg)) rfl c18 ?_
                refine Runs.sN 3 (c' := (244, [.ref 93, .int x1, .int x2, .int x3, .int x4, .int x5, .int (x6 + (-1)), .int x7, .int (I 96 ((x4 + (2 * x7)).toNatClampNeg)), .int (I 96 (((x4 + (2 * x7)) + 1).toNatClampNeg))], [.int (x6 + (-1)), .ref 105, .int ((x6 + (-1)) - 1), .ref 105], (zS I J tg))) rfl ?_
                obtain ⟨c21, h⟩ := h
                refine Runs.to (c' := (245, [.ref 93, .int x1, .int x2, .int x3, .int x4, .int x5, .int (x6 + (-1)), .int x7, .int (I 96 ((x4 + (2 * x7)).toNatClampNeg)), .int (I 96 (((x4 + (2 * x7)) + 1).toNatClampNeg))], [.int (I 105 ((x6 + (-1)).toNatClampNeg)), .int ((x6 + (-1)) - 1), .ref 105], (zS I J tg))) (Runs.zld rfl (show (105 : Nat) < 114 by decide) rfl c21) ?_
                by_cases c22 : (I 105 ((x6 + (-1)).toNatClampNeg)) = 0
                · rw [if_pos c22] at h
                  refine Runs.brT (P := (I 105 ((x6 + (-1)).toNatClampNeg)) = 0) (a := 252) (b := 248) (L := [.ref 93, .int x1, .int x2, .int x3, .int x4, .int x5, .int (x6 + (-1)), .int x7, .int (I 96 ((x4 + (2 * x7)).toNatClampNeg)), .int (I 96 (((x4 + (2 * x7)) + 1).toNatClampNeg))]) (S := [.int ((x6 + (-1)) - 1), .ref 105]) (z := (zS I J tg)) rfl c22 ?_
                  refine Runs.sN 2 (c' := (283, [.ref 93, .int x1, .int x2, .int x3, .int x4, .int x5, .int (x6 + (-1)), .int x7, .int (I 96 ((x4 + (2 * x7)).toNatClampNeg)), .int (I 96 (((x4 + (2 * x7)) + 1).toNatClampNeg))], [.int 0, .int ((x6 + (-1)) - 1), .ref 105], (zS I J tg))) rfl ?_
                  obtain ⟨c23, h⟩ := h
                  obtain ⟨c24, h⟩ := h
                  refine Runs.to (c' := (284, [.ref 93, .int x1, .int x2, .int x3, .int x4, .int x5, .int (x6 + (-1)), .int x7, .int (I 96 ((x4 + (2 * x7)).toNatClampNeg)), .int (I 96 (((x4 + (2 * x7)) + 1).toNatClampNeg))], [], (zS (up2 I 105 (((x6 + (-1)) - 1).toNatClampNeg) 0) J tg))) (Runs.zst rfl (show (105 : Nat) < 114 by decide) rfl c23 c24) ?_
                  refine Runs.sN 2 (c' := (19, [.ref 93, .int x1, .int x2, .int x3, .int x4, .int x5, .int (x6 + (-1)), .int (x7 + 1), .int (I 96 ((x4 + (2 * x7)).toNatClampNeg)), .int (I 96 (((x4 + (2 * x7)) + 1).toNatClampNeg))], [], (zS (up2 I 105 (((x6 + (-1)) - 1).toNatClampNeg) 0) J tg))) rfl ?_
                  exact Runs.weak (L := [.ref 93, .int x1, .int x2, .int x3, .int x4, .int x5, .int (x6 + (-1)), .int (x7 + 1), vU, vU]) (Lle.k (Lle.k (Lle.k (Lle.k (Lle.k (Lle.k (Lle.k (Lle.k (Lle.u (Lle.u Lle.n)))))))))) h
                · rw [if_neg c22] at h
                  refine Runs.brF (P := (I 105 ((x6 + (-1)).toNatClampNeg)) = 0) (a := 252) (b := 248) (L := [.ref 93, .int x1, .int x2, .int x3, .int x4, .int x5, .int (x6 + (-1)), .int x7, .int (I 96 ((x4 + (2 * x7)).toNatClampNeg)), .int (I 96 (((x4 + (2 * x7)) + 1).toNatClampNeg))]) (S := [.int ((x6 + (-1)) - 1), .ref 105]) (z := (zS I J tg)) rfl c22 ?_
                  refine Runs.sN 2 (c' := (283, [.ref 93, .int x1, .int x2, .int x3, .int x4, .int x5, .int (x6 + (-1)), .int x7, .int (I 96 ((x4 + (2 * x7)).toNatClampNeg)), .int (I 96 (((x4 + (2 * x7)) + 1).toNatClampNeg))], [.int 1, .int ((x6 + (-1)) - 1), .ref 105], (zS I J tg))) rfl ?_
                  obtain ⟨c25, h⟩ := h
                  obtain ⟨c26, h⟩ := h
                  refine Runs.to (c' := (284, [.ref 93, .int x1, .int x2, .int x3, .int x4, .int x5, .int (x6 + (-1)), .int x7, .int (I 96 ((x4 + (2 * x7)).toNatClampNeg)), .int (I 96 (((x4 + (2 * x7)) + 1).toNatClampNeg))], [], (zS (up2 I 105 (((x6 + (-1)) - 1).toNatClampNeg) 1) J tg))) (Runs.zst rfl (show (105 : Nat) < 114 by decide) rfl c25 c26) ?_
                  refine Runs.sN 2 (c' := (19, [.ref 93, .int x1, .int x2, .int x3, .int x4, .int x5, .int (x6 + (-1)), .int (x7 + 1), .int (I 96 ((x4 + (2 * x7)).toNatClampNeg)), .int (I 96 (((x4 + (2 * x7)) + 1).toNatClampNeg))], [], (zS (up2 I 105 (((x6 + (-1)) - 1).toNatClampNeg) 1) J tg))) rfl ?_
                  exact Runs.weak (L := [.ref 93, .int x1, .int x2, .int x3, .int x4, .int x5, .int (x6 + (-1)), .int (x7 + 1), vU, vU]) (Lle.k (Lle.k (Lle.k (Lle.k (Lle.k (Lle.k (Lle.k (Lle.k (Lle.u (Lle.u Lle.n)))))))))) h
            · rw [if_neg c16] at h
              refine Runs.brF (P := (I 96 ((x4 + (2 * x7)).toNatClampNeg)) = 21) (a := 226) (b := 256) (L := [.ref 93, .int x1, .int x2, .int x3, .int x4, .int x5, .int (x6 + (-1)), .int x7, .int (I 96 ((x4 + (2 * x7)).toNatClampNeg)), .int (I 96 (((x4 + (2 * x7)) + 1).toNatClampNeg))]) (S := [.int ((x6 + (-1)) - 1), .ref 105]) (z := (zS I J tg)) rfl c16 ?_
              refine Runs.sN 5 (c' := (264, [.ref 93, .int x1, .int x2, .int x3, .int x4, .int x5, .int (x6 + (-1)), .int x7, .int (I 96 ((x4 + (2 * x7)).toNatClampNeg)), .int (I 96 (((x4 + (2 * x7)) + 1).toNatClampNeg))], [.int ((x6 + (-1)) - 1), .ref 105, .int ((x6 + (-1)) - 1), .ref 105], (zS I J tg))) rfl ?_
              obtain ⟨c27, h⟩ := h
              refine Runs.to (c' := (265, [.ref 93, .int x1, .int x2, .int x3, .int x4, .int x5, .int (x6 + (-1)), .int x7, .int (I 96 ((x4 + (2 * x7)).toNatClampNeg)), .int (I 96 (((x4 + (2 * x7)) + 1).toNatClampNeg))], [.int (I 105 (((x6 + (-1)) - 1).toNatClampNeg)), .int ((x6 + (-1)) - 1), .ref 105], (zS I J tg))) (Runs.zld rfl (show (105 : Nat) < 114 by decide) rfl c27) ?_
              by_cases c28 : (I 105 (((x6 + (-1)) - 1).toNatClampNeg)) = 0
              · rw [if_pos c28] at h
                refine Runs.brT (P := (I 105 (((x6 + (-1)) - 1).toNatClampNeg)) = 0) (a := 268) (b := 278) (L := [.ref 93, .int x1, .int x2, .int x3, .int x4, .int x5, .int (x6 + (-1)), .int x7, .int (I 96 ((x4 + (2 * x7)).toNatClampNeg)), .int (I 96 (((x4 + (2 * x7)) + 1).toNatClampNeg))]) (S := [.int ((x6 + (-1)) - 1), .ref 105]) (z := (zS I J tg)) rfl c28 ?_
                refine Runs.sN 3 (c' := (274, [.ref 93, .int x1, .int x2, .int x3, .int x4, .int x5, .int (x6 + (-1)), .int x7, .int (I 96 ((x4 + (2 * x7)).toNatClampNeg)), .int (I 96 (((x4 + (2 * x7)) + 1).toNatClampNeg))], [.int (x6 + (-1)), .ref 105, .int ((x6 + (-1)) - 1), .ref 105], (zS I J tg))) rfl ?_
                obtain ⟨c29, h⟩ := h
                refine Runs.to (c' := (275, [.ref 93, .int x1, .int x2, .int x3, .int x4, .int x5, .int (x6 + (-1)), .int x7, .int (I 96 ((x4 + (2 * x7)).toNatClampNeg)), .int (I 96 (((x4 + (2 * x7)) + 1).toNatClampNeg))], [.int (I 105 ((x6 + (-1)).toNatClampNeg)), .int ((x6 + (-1)) - 1), .ref 105], (zS I J tg))) (Runs.zld rfl (show (105 : Nat) < 114 by decide) rfl c29) ?_
                by_cases c30 : (I 105 ((x6 + (-1)).toNatClampNeg)) = 0
                · rw [if_pos c30] at h
                  refine Runs.brT (P := (I 105 ((x6 + (-1)).toNatClampNeg)) = 0) (a := 282) (b := 278) (L := [.ref 93, .int x1, .int x2, .int x3, .int x4, .int x5, .int (x6 + (-1)), .int x7, .int (I 96 ((x4 + (2 * x7)).toNatClampNeg)), .int (I 96 (((x4 + (2 * x7)) + 1).toNatClampNeg))]) (S := [.int ((x6 + (-1)) - 1), .ref 105]) (z := (zS I J tg)) rfl c30 ?_
                  refine Runs.sN 1 (c' := (283, [.ref 93, .int x1, .int x2, .int x3, .int x4, .int x5, .int (x6 + (-1)), .int x7, .int (I 96 ((x4 + (2 * x7)).toNatClampNeg)), .int (I 96 (((x4 + (2 * x7)) + 1).toNatClampNeg))], [.int 0, .int ((x6 + (-1)) - 1), .ref 105], (zS I J tg))) rfl ?_
                  obtain ⟨c31, h⟩ := h
                  obtain ⟨c32, h⟩ := h
                  refine Runs.to (c' := (284, [.ref 93, .int x1, .int x2, .int x3, .int x4, .int x5, .int (x6 + (-1)), .int x7, .int (I 96 ((x4 + (2 * x7)).toNatClampNeg)), .int (I 96 (((x4 + (2 * x7)) + 1).toNatClampNeg))], [], (zS (up2 I 105 (((x6 + (-1)) - 1).toNatClampNeg) 0) J tg))) (Runs.zst rfl (show (105 : Nat) < 114 by decide) rfl c31 c32) ?_
                  refine Runs.sN 2 (c' := (19, [.ref 93, .int x1, .int x2, .int x3, .int x4, .int x5, .int (x6 + (-1)), .int (x7 + 1), .int (I 96 ((x4 + (2 * x7)).toNatClampNeg)), .int (I 96 (((x4 + (2 * x7)) + 1).toNatClampNeg))], [], (zS (up2 I 105 (((x6 + (-1)) - 1).toNatClampNeg) 0) J tg))) rfl ?_
                  exact Runs.weak (L := [.ref 93, .int x1, .int x2, .int x3, .int x4, .int x5, .int (x6 + (-1)), .int (x7 + 1), vU, vU]) (Lle.k (Lle.k (Lle.k (Lle.k (Lle.k (Lle.k (Lle.k (Lle.k (Lle.u (Lle.u Lle.n)))))))))) h
                · rw [if_neg c30] at h
                  refine Runs.brF (P := (I 105 ((x6 + (-1)).toNatClampNeg)) = 0) (a := 282) (b := 278) (L := [.ref 93, .int x1, .int x2, .int x3, .int x4, .int x5, .int (x6 + (-1)), .int x7, .int (I 96 ((x4 + (2 * x7)).toNatClampNeg)), .int (I 96 (((x4 + (2 * x7)) + 1).toNatClampNeg))]) (S := [.int ((x6 + (-1)) - 1), .ref 105]) (z := (zS I J tg)) rfl c30 ?_
                  refine Runs.sN 2 (c' := (283, [.ref 93, .int x1, .int x2, .int x3, .int x4, .int x5, .int (x6 + (-1)), .int x7, .int (I 96 ((x4 + (2 * x7)).toNatClampNeg)), .int (I 96 (((x4 + (2 * x7)) + 1).toNatClampNeg))], [.int 1, .int ((x6 + (-1)) - 1), .ref 105], (zS I J tg))) rfl ?_
                  obtain ⟨c33, h⟩ := h
                  obtain ⟨c34, h⟩ := h
                  refine Runs.to (c' := (284, [.ref 93, .int x1, .int x2, .int x3, .int x4, .int x5, .int (x6 + (-1)), .int x7, .int (I 96 ((x4 + (2 * x7)).toNatClampNeg)), .int (I 96 (((x4 + (2 * x7)) + 1).toNatClampNeg))], [], (zS (up2 I 105 (((x6 + (-1)) - 1).toNatClampNeg) 1) J tg))) (Runs.zst rfl (show (105 : Nat) < 114 by decide) rfl c33 c34) ?_
                  refine Runs.sN 2 (c' := (19, [.ref 93, .int x1, .int x2, .int x3, .int x4, .int x5, .int (x6 + (-1)), .int (x7 + 1), .int (I 96 ((x4 + (2 * x7)).toNatClampNeg)), .int (I 96 (((x4 + (2 * x7)) + 1).toNatClampNeg))], [], (zS (up2 I 105 (((x6 + (-1)) - 1).toNatClampNeg) 1) J tg))) rfl ?_
                  exact Runs.weak (L := [.ref 93, .int x1, .int x2, .int x3, .int x4, .int x5, .int (x6 + (-1)), .int (x7 + 1), vU, vU]) (Lle.k (Lle.k (Lle.k (Lle.k (Lle.k (Lle.k (Lle.k (Lle.k (Lle.u (Lle.u Lle.n)))))))))) h
              · rw [if_neg c28] at h
                refine Runs.brF (P := (I 105 (((x6 + (-1)) - 1).toNatClampNeg)) = 0) (a := 268) (b := 278) (L := [.ref 93, .int x1, .int x2, .int x3, .int x4, .int x5, .int (x6 + (-1)), .int x7, .int (I 96 ((x4 + (2 * x7)).toNatClampNeg)), .int (I 96 (((x4 + (2 * x7)) + 1).toNatClampNeg))]) (S := [.int ((x6 + (-1)) - 1), .ref 105]) (z := (zS I J tg)) rfl c28 ?_
                refine Runs.sN 2 (c' := (283, [.ref 93, .int x1, .int x2, .int x3, .int x4, .int x5, .int (x6 + (-1)), .int x7, .int (I 96 ((x4 + (2 * x7)).toNatClampNeg)), .int (I 96 (((x4 + (2 * x7)) + 1).toNatClampNeg))], [.int 1, .int ((x6 + (-1)) - 1), .ref 105], (zS I J tg))) rfl ?_
                obtain ⟨c35, h⟩ := h
                obtain ⟨c36, h⟩ := h
                refine Runs.to (c' := (284, [.ref 93, .int x1, .int x2, .int x3, .int x4, .int x5, .int (x6 + (-1)), .int x7, .int (I 96 ((x4 + (2 * x7)).toNatClampNeg)), .int (I 96 (((x4 + (2 * x7)) + 1).toNatClampNeg))], [], (zS (up2 I 105 (((x6 + (-1)) - 1).toNatClampNeg) 1) J tg))) (Runs.zst rfl (show (105 : Nat) < 114 by decide) rfl c35 c36) ?_
                refine Runs.sN 2 (c' := (19, [.ref 93, .int x1, .int x2, .int x3, .int x4, .int x5, .int (x6 + (-1)), .int (x7 + 1), .int (I 96 ((x4 + (2 * x7)).toNatClampNeg)), .int (I 96 (((x4 + (2 * x7)) + 1).toNatClampNeg))], [], (zS (up2 I 105 (((x6 + (-1)) - 1).toNatClampNeg) 1) J tg))) rfl ?_
                exact Runs.weak (L := [.ref 93, .int x1, .int x2, .int x3, .int x4, .int x5, .int (x6 + (-1)), .int (x7 + 1), vU, vU]) (Lle.k (Lle.k (Lle.k (Lle.k (Lle.k (Lle.k (Lle.k (Lle.k (Lle.u (Lle.u Lle.n)))))))))) h
          · rw [if_neg c15] at h
            refine Runs.brF (P := 21 ≤ (I 96 ((x4 + (2 * x7)).toNatClampNeg))) (a := 208) (b := 171) (L := [.ref 93, .int x1, .int x2, .int x3, .int x4, .int x5, .int x6, .int x7, .int (I 96 ((x4 + (2 * x7)).toNatClampNeg)), .int (I 96 (((x4 + (2 * x7)) + 1).toNatClampNeg))]) (S := []) (z := (zS I J tg)) rfl c15 ?_
            refine Runs.sN 8 (c' := (188, [.ref 93, .int x1, .int x2, .int x3, .int x4, .int (x5 + (-2)), .int x6, .int x7, .int (I 96 ((x4 + (2 * x7)).toNatClampNeg)), .int (I 96 (((x4 + (2 * x7)) + 1).toNatClampNeg))], [.int (x5 + (-2)), .ref 104, .int (I 96 ((x4 + (2 * x7)).toNatClampNeg)), .int x6, .ref 105], (zS I J tg))) rfl ?_
            obtain ⟨c37, h⟩ := h
            refine Runs.to (c' := (189, [.ref 93, .int x1, .int x2, .int x3, .int x4, .int (x5 + (-2)), .int x6, .int x7, .int (I 96 ((x4 + (2 * x7)).toNatClampNeg)), .int (I 96 (((x4 + (2 * x7)) + 1).toNatClampNeg))], [.long (J 104 (x5 + (-2)).toNatClampNeg), .int (I 96 ((x4 + (2 * x7)).toNatClampNeg)), .int x6, .ref 105], (zS I J tg))) (Runs.lld rfl (show (104 : Nat) < 114 by decide) rfl c37) ?_
            refine Runs.sN 5 (c' := (197, [.ref 93, .int x1, .int x2, .int x3, .int x4, .int (x5 + (-2)), .int x6, .int x7, .int (I 96 ((x4 + (2 * x7)).toNatClampNeg)), .int (I 96 (((x4 + (2 * x7)) + 1).toNatClampNeg))], [.int ((x5 + (-2)) + 1), .ref 104, .long (J 104 (x5 + (-2)).toNatClampNeg), .int (I 96 ((x4 + (2 * x7)).toNatClampNeg)), .int x6, .ref 105], (zS I J tg))) rfl ?_
            obtain ⟨c38, h⟩ := h
            refine Runs.to (c' := (198, [.ref 93, .int x1, .int x2, .int x3, .int x4, .int (x5 + (-2)), .int x6, .int x7, .int (I 96 ((x4 + (2 * x7)).toNatClampNeg)), .int (I 96 (((x4 + (2 * x7)) + 1).toNatClampNeg))], [.long (J 104 ((x5 + (-2)) + 1).toNatClampNeg), .long (J 104 (x5 + (-2)).toNatClampNeg), .int (I 96 ((x4 + (2 * x7)).toNatClampNeg)), .int x6, .ref 105], (zS I J tg))) (Runs.lld rfl (show (104 : Nat) < 114 by decide) rfl c38) ?_
            obtain ⟨v1, I2, J3, c39, h⟩ := h
            refine Runs.cl (cm := 238) (as := [.int (I 96 ((x4 + (2 * x7)).toNatClampNeg)), .long (J 104 (x5 + (-2)).toNatClampNeg), .long (J 104 ((x5 + (-2)) + 1).toNatClampNeg)]) (rest := [.int x6, .ref 105]) (r1 := ((some (.int v1)), (zS I2 J3 tg))) rfl (Nat.le_of_ble_eq_true rfl) c39 ?_
            refine Runs.as (c' := (201, [.ref 93, .int x1, .int x2, .int x3, .int x4, .int (x5 + (-2)), .int x6, .int x7, .int (I 96 ((x4 + (2 * x7)).toNatClampNeg)), .int (I 96 (((x4 + (2 * x7)) + 1).toNatClampNeg))], [.int v1, .int x6, .ref 105], (zS I2 J3 tg))) rfl ?_
            obtain ⟨c40, h⟩ := h
            obtain ⟨c41, h⟩ := h
            refine Runs.to (c' := (202, [.ref 93, .int x1, .int x2, .int x3, .int x4, .int (x5 + (-2)), .int x6, .int x7, .int (I 96 ((x4 + (2 * x7)).toNatClampNeg)), .int (I 96 (((x4 + (2 * x7)) + 1).toNatClampNeg))], [], (zS (up2 I2 105 ((x6).toNatClampNeg) v1) J3 tg))) (Runs.zst rfl (show (105 : Nat) < 114 by decide) rfl c40 c41) ?_
            refine Runs.sN 4 (c' := (19, [.ref 93, .int x1, .int x2, .int x3, .int x4, .int (x5 + (-2)), .int (x6 + 1), .int (x7 + 1), .int (I 96 ((x4 + (2 * x7)).toNatClampNeg)), .int (I 96 (((x4 + (2 * x7)) + 1).toNatClampNeg))], [], (zS (up2 I2 105 ((x6).toNatClampNeg) v1) J3 tg))) rfl ?_
            exact Runs.weak (L := [.ref 93, .int x1, .int x2, .int x3, .int x4, .int (x5 + (-2)), .int (x6 + 1), .int (x7 + 1), vU, vU]) (Lle.k (Lle.k (Lle.k (Lle.k (Lle.k (Lle.k (Lle.k (Lle.k (Lle.u (Lle.u Lle.n)))))))))) h
        · rw [if_neg c14] at h
          refine Runs.brF (P := 10 ≤ (I 96 ((x4 + (2 * x7)).toNatClampNeg))) (a := 164) (b := 128) (L := [.ref 93, .int x1, .int x2, .int x3, .int x4, .int x5, .int x6, .int x7, .int (I 96 ((x4 + (2 * x7)).toNatClampNeg)), .int (I 96 (((x4 + (2 * x7)) + 1).toNatClampNeg))]) (S := []) (z := (zS I J tg)) rfl c14 ?_
          refine Runs.sN 12 (c' := (149, [.ref 93, .int x1, .int x2, .int x3, .int x4, .int (x5 + (-1)), .int x6, .int x7, .int (I 96 ((x4 + (2 * x7)).toNatClampNeg)), .int (I 96 (((x4 + (2 * x7)) + 1).toNatClampNeg))], [.int ((x5 + (-1)) - 1), .ref 104, .int (I 96 ((x4 + (2 * x7)).toNatClampNeg)), .int ((x5 + (-1)) - 1), .ref 104], (zS I J tg))) rfl ?_
          obtain ⟨c42, h⟩ := h
          refine Runs.to (c' := (150, [.ref 93, .int x1, .int x2, .int x3, .int x4, .int (x5 + (-1)), .int x6, .int x7, .int (I 96 ((x4 + (2 * x7)).toNatClampNeg)), .int (I 96 (((x4 + (2 * x7)) + 1).toNatClampNeg))], [.long (J 104 ((x5 + (-1)) - 1).toNatClampNeg), .int (I 96 ((x4 + (2 * x7)).toNatClampNeg)), .int ((x5 + (-1)) - 1), .ref 104], (zS I J tg))) (Runs.lld rfl (show (104 : Nat) < 114 by decide) rfl c42) ?_
          refine Runs.sN 3 (c' := (156, [.ref 93, .int x1, .int x2, .int x3, .int x4, .int (x5 + (-1)), .int x6, .int x7, .int (I 96 ((x4 + (2 * x7)).toNatClampNeg)), .int (I 96 (((x4 + (2 * x7)) + 1).toNatClampNeg))], [.int (x5 + (-1)), .ref 104, .long (J 104 ((x5 + (-1)) - 1).toNatClampNeg), .int (I 96 ((x4 + (2 * x7)).toNatClampNeg)), .int ((x5 + (-1)) - 1), .ref 104], (zS I J tg))) rfl ?_
          obtain ⟨c43, h⟩ := h
          refine Runs.to (c' := (157, [.ref 93, .int x1, .int x2, .int x3, .int x4, .int (x5 + (-1)), .int x6, .int x7, .int (I 96 ((x4 + (2 * x7)).toNatClampNeg)), .int (I 96 (((x4 + (2 * x7)) + 1).toNatClampNeg))], [.long (J 104 (x5 + (-1)).toNatClampNeg), .long (J 104 ((x5 + (-1)) - 1).toNatClampNeg), .int (I 96 ((x4 + (2 * x7)).toNatClampNeg)), .int ((x5 + (-1)) - 1), .ref 104], (zS I J tg))) (Runs.lld rfl (show (104 : Nat) < 114 by decide) rfl c43) ?_
          obtain ⟨v4, I5, J6, c44, h⟩ := h
          refine Runs.cl (cm := 237) (as := [.int (I 96 ((x4 + (2 * x7)).toNatClampNeg)), .long (J 104 ((x5 + (-1)) - 1).toNatClampNeg), .long (J 104 (x5 + (-1)).toNatClampNeg)]) (rest := [.int ((x5 + (-1)) - 1), .ref 104]) (r1 := ((some (.long v4)), (zS I5 J6 tg))) rfl (Nat.le_of_ble_eq_true rfl) c44 ?_
          refine Runs.as (c' := (160, [.ref 93, .int x1, .int x2, .int x3, .int x4, .int (x5 + (-1)), .int x6, .int x7, .int (I 96 ((x4 + (2 * x7)).toNatClampNeg)), .int (I 96 (((x4 + (2 * x7)) + 1).toNatClampNeg))], [.long v4, .int ((x5 + (-1)) - 1), .ref 104], (zS I5 J6 tg))) rfl ?_
          obtain ⟨c45, h⟩ := h
          refine Runs.to (c' := (161, [.ref 93, .int x1, .int x2, .int x3, .int x4, .int (x5 + (-1)), .int x6, .int x7, .int (I 96 ((x4 + (2 * x7)).toNatClampNeg)), .int (I 96 (((x4 + (2 * x7)) + 1).toNatClampNeg))], [], (zS I5 (up2 J6 104 ((x5 + (-1)) - 1).toNatClampNeg v4) tg))) (Runs.lst rfl (show (104 : Nat) < 114 by decide) rfl c45) ?_
          refine Runs.sN 3 (c' := (19, [.ref 93, .int x1, .int x2, .int x3, .int x4, .int (x5 + (-1)), .int x6, .int (x7 + 1), .int (I 96 ((x4 + (2 * x7)).toNatClampNeg)), .int (I 96 (((x4 + (2 * x7)) + 1).toNatClampNeg))], [], (zS I5 (up2 J6 104 ((x5 + (-1)) - 1).toNatClampNeg v4) tg))) rfl ?_
          exact Runs.weak (L := [.ref 93, .int x1, .int x2, .int x3, .int x4, .int (x5 + (-1)), .int x6, .int (x7 + 1), vU, vU]) (Lle.k (Lle.k (Lle.k (Lle.k (Lle.k (Lle.k (Lle.k (Lle.k (Lle.u (Lle.u Lle.n)))))))))) h
    · rw [if_neg c10] at h
      refine Runs.brF (P := 1 < (I 96 ((x4 + (2 * x7)).toNatClampNeg))) (a := 93) (b := 61) (L := [.ref 93, .int x1, .int x2, .int x3, .int x4, .int x5, .int x6, .int x7, .int (I 96 ((x4 + (2 * x7)).toNatClampNeg)), .int (I 96 (((x4 + (2 * x7)) + 1).toNatClampNeg))]) (S := []) (z := (zS I J tg)) rfl c10 ?_
      refine Runs.sN 4 (c' := (69, [.ref 93, .int x1, .int x2, .int x3, .int x4, .int x5, .int x6, .int x7, .int (I 96 ((x4 + (2 * x7)).toNatClampNeg)), .int (I 96 (((x4 + (2 * x7)) + 1).toNatClampNeg))], [.int (I 96 ((x4 + (2 * x7)).toNatClampNeg)), .int x5, .ref 104], (zS I J tg))) rfl ?_
      by_cases c46 : (I 96 ((x4 + (2 * x7)).toNatClampNeg)) = 0
      · rw [if_pos c46] at h
        refine Runs.brT (P := (I 96 ((x4 + (2 * x7)).toNatClampNeg)) = 0) (a := 72) (b := 78) (L := [.ref 93, .int x1, .int x2, .int x3, .int x4, .int x5, .int x6, .int x7, .int (I 96 ((x4 + (2 * x7)).toNatClampNeg)), .int (I 96 (((x4 + (2 * x7)) + 1).toNatClampNeg))]) (S := [.int x5, .ref 104]) (z := (zS I J tg)) rfl c46 ?_
        refine Runs.sN 3 (c' := (86, [.ref 93, .int x1, .int x2, .int x3, .int x4, .int x5, .int x6, .int x7, .int (I 96 ((x4 + (2 * x7)).toNatClampNeg)), .int (I 96 (((x4 + (2 * x7)) + 1).toNatClampNeg))], [.long (Int32.toInt64 (I 96 (((x4 + (2 * x7)) + 1).toNatClampNeg))), .int x5, .ref 104], (zS I J tg))) rfl ?_
        obtain ⟨c47, h⟩ := h
        refine Runs.to (c' := (87, [.ref 93, .int x1, .int x2, .int x3, .int x4, .int x5, .int x6, .int x7, .int (I 96 ((x4 + (2 * x7)).toNatClampNeg)), .int (I 96 (((x4 + (2 * x7)) + 1).toNatClampNeg))], [], (zS I (up2 J 104 (x5).toNatClampNeg (Int32.toInt64 (I 96 (((x4 + (2 * x7)) + 1).toNatClampNeg)))) tg))) (Runs.lst rfl (show (104 : Nat) < 114 by decide) rfl c47) ?_
        refine Runs.sN 4 (c' := (19, [.ref 93, .int x1, .int x2, .int x3, .int x4, .int (x5 + 1), .int x6, .int (x7 + 1), .int (I 96 ((x4 + (2 * x7)).toNatClampNeg)), .int (I 96 (((x4 + (2 * x7)) + 1).toNatClampNeg))], [], (zS I (up2 J 104 (x5).toNatClampNeg (Int32.toInt64 (I 96 (((x4 + (2 * x7)) + 1).toNatClampNeg)))) tg))) rfl ?_
        exact Runs.weak (L := [.ref 93, .int x1, .int x2, .int x3, .int x4, .int (x5 + 1), .int x6, .int (x7 + 1), vU, vU]) (Lle.k (Lle.k (Lle.k (Lle.k (Lle.k (Lle.k (Lle.k (Lle.k (Lle.u (Lle.u Lle.n)))))))))) h
      · rw [if_neg c46] at h
        refine Runs.brF (P := (I 96 ((x4 + (2 * x7)).toNatClampNeg)) = 0) (a := 72) (b := 78) (L := [.ref 93, .int x1, .int x2, .int x3, .int x4, .int x5, .int x6, .int x7, .int (I 96 ((x4 + (2 * x7)).toNatClampNeg)), .int (I 96 (((x4 + (2 * x7)) + 1).toNatClampNeg))]) (S := [.int x5, .ref 104]) (z := (zS I J tg)) rfl c46 ?_
        refine Runs.sN 3 (c' := (84, [.ref 93, .int x1, .int x2, .int x3, .int x4, .int x5, .int x6, .int x7, .int (I 96 ((x4 + (2 * x7)).toNatClampNeg)), .int (I 96 (((x4 + (2 * x7)) + 1).toNatClampNeg))], [.int (I 96 (((x4 + (2 * x7)) + 1).toNatClampNeg)), .ref 103, .int x5, .ref 104], (zS I J tg))) rfl ?_
        obtain ⟨c48, h⟩ := h
        refine Runs.to (c' := (85, [.ref 93, .int x1, .int x2, .int x3, .int x4, .int x5, .int x6, .int x7, .int (I 96 ((x4 + (2 * x7)).toNatClampNeg)), .int (I 96 (((x4 + (2 * x7)) + 1).toNatClampNeg))], [.int (I 103 ((I 96 (((x4 + (2 * x7)) + 1).toNatClampNeg)).toNatClampNeg)), .int x5, .ref 104], (zS I J tg))) (Runs.ild rfl (show (103 : Nat) < 114 by decide) rfl c48) ?_
        refine Runs.sN 1 (c' := (86, [.ref 93, .int x1, .int x2, .int x3, .int x4, .int x5, .int x6, .int x7, .int (I 96 ((x4 + (2 * x7)).toNatClampNeg)), .int (I 96 (((x4 + (2 * x7)) + 1).toNatClampNeg))], [.long (Int32.toInt64 (I 103 ((I 96 (((x4 + (2 * x7)) + 1).toNatClampNeg)).toNatClampNeg))), .int x5, .ref 104], (zS I J tg))) rfl ?_
        obtain ⟨c49, h⟩ := h
        refine Runs.to (c' := (87, [.ref 93, .int x1, .int x2, .int x3, .int x4, .int x5, .int x6, .int x7, .int (I 96 ((x4 + (2 * x7)).toNatClampNeg)), .int (I 96 (((x4 + (2 * x7)) + 1).toNatClampNeg))], [], (zS I (up2 J 104 (x5).toNatClampNeg (Int32.toInt64 (I 103 ((I 96 (((x4 + (2 * x7)) + 1).toNatClampNeg)).toNatClampNeg)))) tg))) (Runs.lst rfl (show (104 : Nat) < 114 by decide) rfl c49) ?_
        refine Runs.sN 4 (c' := (19, [.ref 93, .int x1, .int x2, .int x3, .int x4, .int (x5 + 1), .int x6, .int (x7 + 1), .int (I 96 ((x4 + (2 * x7)).toNatClampNeg)), .int (I 96 (((x4 + (2 * x7)) + 1).toNatClampNeg))], [], (zS I (up2 J 104 (x5).toNatClampNeg (Int32.toInt64 (I 103 ((I 96 (((x4 + (2 * x7)) + 1).toNatClampNeg)).toNatClampNeg)))) tg))) rfl ?_
        exact Runs.weak (L := [.ref 93, .int x1, .int x2, .int x3, .int x4, .int (x5 + 1), .int x6, .int (x7 + 1), vU, vU]) (Lle.k (Lle.k (Lle.k (Lle.k (Lle.k (Lle.k (Lle.k (Lle.k (Lle.u (Lle.u Lle.n)))))))))) h
-- X12_nameLook 
theorem sg_240 {L d : Nat} {xs : Nat → Int32} (I : Nat → Nat → Int32) (J : Nat → Nat → Int64) (tg : Option Nat) (a1 : Int32) {r : Option Value × SS} (h : (Runs (GW L xs) (d + 1) 240 (2, [.ref 93, .int a1, .int 0], [], (zS I J tg)) r)) : Runs (GW L xs) (d + 1) 240 (0, [.ref 93, .int a1, vU], [], (zS I J tg)) r := by
  refine Runs.sN 2 (c' := (2, [.ref 93, .int a1, .int 0], [], (zS I J tg))) rfl ?_
  exact h
theorem sg_240_2 {L d : Nat} {xs : Nat → Int32} (I : Nat → Nat → Int32) (J : Nat → Nat → Int64) (tg : Option Nat) (x1 : Int32) (x2 : Int32) {r : Option Value × SS} (h : ((if 5 ≤ x2 then (Runs (GW L xs) (d + 1) 240 (22, [.ref 93, .int x1, .int 0], [], (zS I J tg)) r) else (¬ (x2 < 0 ∨ 12 ≤ (x2).toNatClampNeg) ∧ Runs (GW L xs) (d + 1) 240 (2, [.ref 93, .int x1, .int (x2 + 1)], [], (zS (up2 I 103 ((x2).toNatClampNeg) 0) J tg)) r)))) : Runs (GW L xs) (d + 1) 240 (2, [.ref 93, .int x1, .int x2], [], (zS I J tg)) r := by
  refine Runs.sN 2 (c' := (4, [.ref 93, .int x1, .int x2], [.int 5, .int x2], (zS I J tg))) rfl ?_
  by_cases c1 : 5 ≤ x2
  · rw [if_pos c1] at h
    refine Runs.brT (P := 5 ≤ x2) (a := 20) (b := 7) (L := [.ref 93, .int x1, .int x2]) (S := []) (z := (zS I J tg)) rfl c1 ?_
    refine Runs.sN 2 (c' := (22, [.ref 93, .int x1, .int 0], [], (zS I J tg))) rfl ?_
    exact h
  · rw [if_neg c1] at h
    refine Runs.brF (P := 5 ≤ x2) (a := 20) (b := 7) (L := [.ref 93, .int x1, .int x2]) (S := []) (z := (zS I J tg)) rfl c1 ?_
    refine Runs.sN 4 (c' := (13, [.ref 93, .int x1, .int x2], [.int 0, .int x2, .ref 103], (zS I J tg))) rfl ?_
    obtain ⟨c2, h⟩ := h
    refine Runs.to (c' := (14, [.ref 93, .int x1, .int x2], [], (zS (up2 I 103 ((x2).toNatClampNeg) 0) J tg))) (Runs.ist rfl (show (103 : Nat) < 114 by decide) rfl c2) ?_
    refine Runs.sN 2 (c' := (2, [.ref 93, .int x1, .int (x2 + 1)], [], (zS (up2 I 103 ((x2).toNatClampNeg) 0) J tg))) rfl ?_
    exact h
theorem sg_240_22 {L d : Nat} {xs : Nat → Int32} (I : Nat → Nat → Int32) (J : Nat → Nat → Int64) (tg : Option Nat) (x1 : Int32) (x2 : Int32) {r : Option Value × SS} (h : (∃ (v1 : Int32) (I2 : Nat → Nat → Int32) (J3 : Nat → Nat → Int64), Runs (GW L xs) d 184 (0, [.ref 93, .int x1, .int 0], [], (zS I J tg)) ((some (.int v1)), (zS I2 J3 tg)) ∧ (if v1 ≤ x2 then (∃ (v4 : Int32) (I5 : Nat → Nat → Int32) (J6 : Nat → Nat → Int64), Runs (GW L xs) d 184 (0, [.ref 93, .int x1, .int 0], [], (zS I2 J3 tg)) ((some (.int v4)), (zS I5 J6 tg)) ∧ ∃ (v7 : Int32) (I8 : Nat → Nat → Int32) (J9 : Nat → Nat → Int64), Runs (GW L xs) d 184 (0, [.ref 93, .int x1, .int 1], [], (zS (up2 I5 103 5 v4) J6 tg)) ((some (.int v7)), (zS I8 J9 tg)) ∧ ∃ (v10 : Int32) (I11 : Nat → Nat → Int32) (J12 : Nat → Nat → Int64), Runs (GW L xs) d 184 (0, [.ref 93, .int x1, .int 2], [], (zS (up2 I8 103 6 v7) J9 tg)) ((some (.int v10)), (zS I11 J12 tg)) ∧ (if 0 ≤ v10 then (∃ (v13 : Int32) (I14 : Nat → Nat → Int32) (J15 : Nat → Nat → Int64), Runs (GW L xs) d 184 (0, [.ref 93, .int x1, .int 2], [], (zS I11 J12 tg)) ((some (.int v13)), (zS I14 J15 tg)) ∧ r = (none, (zS (up2 I14 103 7 (v13 - 12)) J15 tg))) else (r = (none, (zS (up2 I11 103 7 (-1)) J12 tg))))) else (∃ (v16 : Int32) (I17 : Nat → Nat → Int32) (J18 : Nat → Nat → Int64), Runs (GW L xs) d 184 (0, [.ref 93, .int x1, .int (4 + x2)], [], (zS I2 J3 tg)) ((some (.int v16)), (zS I17 J18 tg)) ∧ ¬ ((v16 / 36) < 0 ∨ 12 ≤ (v16 / 36).toNatClampNeg) ∧ ¬ ((v16 / 36) < 0 ∨ 12 ≤ (v16 / 36).toNatClampNeg) ∧ Runs (GW L xs) (d + 1) 240 (22, [.ref 93, .int x1, .int (x2 + 1)], [], (zS (up2 I17 103 ((v16 / 36).toNatClampNeg) ((I17 103 ((v16 / 36).toNatClampNeg)) + 1)) J18 tg)) r)))) : Runs (GW L xs) (d + 1) 240 (22, [.ref 93, .int x1, .int x2], [], (zS I J tg)) r := by
  refine Runs.sN 4 (c' := (26, [.ref 93, .int x1, .int x2], [.int 0, .int x1, .ref 93, .int x2], (zS I J tg))) rfl ?_
  obtain ⟨v1, I2, J3, c19, h⟩ := h
  refine Runs.cl (cm := 184) (as := [.ref 93, .int x1, .int 0]) (rest := [.int x2]) (r1 := ((some (.int v1)), (zS I2 J3 tg))) rfl (Nat.le_of_ble_eq_true rfl) c19 ?_
  refine Runs.as (c' := (29, [.ref 93, .int x1, .int x2], [.int v1, .int x2], (zS I2 J3 tg))) rfl ?_
  by_cases c20 : v1 ≤ x2
  · rw [if_pos c20] at h
    refine Runs.brT (P := v1 ≤ x2) (a := 58) (b := 32) (L := [.ref 93, .int x1, .int x2]) (S := []) (z := (zS I2 J3 tg)) rfl c20 ?_
    refine Runs.sN 6 (c' := (66, [.ref 93, .int x1, .int x2], [.int 0, .int x1, .ref 93, .int 5, .ref 103], (zS I2 J3 tg))) rfl ?_
    obtain ⟨v4, I5, J6, c21, h⟩ := h
    refine Runs.cl (cm := 184) (as := [.ref 93, .int x1, .int 0]) (rest := [.int 5, .ref 103]) (r1 := ((some (.int v4)), (zS I5 J6 tg))) rfl (Nat.le_of_ble_eq_true rfl) c21 ?_
    refine Runs.as (c' := (69, [.ref 93, .int x1, .int x2], [.int v4, .int 5, .ref 103], (zS I5 J6 tg))) rfl ?_
    refine Runs.sN 7 (c' := (79, [.ref 93, .int x1, .int x2], [.int 1, .int x1, .ref 93, .int 6, .ref 103], (zS (up2 I5 103 5 v4) J6 tg))) rfl ?_
    obtain ⟨v7, I8, J9, c22, h⟩ := h
    refine Runs.cl (cm := 184) (as := [.ref 93, .int x1, .int 1]) (rest := [.int 6, .ref 103]) (r1 := ((some (.int v7)), (zS I8 J9 tg))) rfl (Nat.le_of_ble_eq_true rfl) c22 ?_
    refine Runs.as (c' := (82, [.ref 93, .int x1, .int x2], [.int v7, .int 6, .ref 103], (zS I8 J9 tg))) rfl ?_
    refine Runs.sN 7 (c' := (92, [.ref 93, .int x1, .int x2], [.int 2, .int x1, .ref 93, .int 7, .ref 103], (zS (up2 I8 103 6 v7) J9 tg))) rfl ?_
    obtain ⟨v10, I11, J12, c23, h⟩ := h
    refine Runs.cl (cm := 184) (as := [.ref 93, .int x1, .int 2]) (rest := [.int 7, .ref 103]) (r1 := ((some (.int v10)), (zS I11 J12 tg))) rfl (Nat.le_of_ble_eq_true rfl) c23 ?_
    refine Runs.as (c' := (95, [.ref 93, .int x1, .int x2], [.int v10, .int 7, .ref 103], (zS I11 J12 tg))) rfl ?_
    by_cases c24 : 0 ≤ v10
    · rw [if_pos c24] at h
      refine Runs.brT (P := 0 ≤ v10) (a := 102) (b := 98) (L := [.ref 93, .int x1, .int x2]) (S := [.int 7, .ref 103]) (z := (zS I11 J12 tg)) rfl c24 ?_
      refine Runs.sN 3 (c' := (105, [.ref 93, .int x1, .int x2], [.int 2, .int x1, .ref 93, .int 7, .ref 103], (zS I11 J12 tg))) rfl ?_
      obtain ⟨v13, I14, J15, c25, h⟩ := h
      refine Runs.cl (cm := 184) (as := [.ref 93, .int x1, .int 2]) (rest := [.int 7, .ref 103]) (r1 := ((some (.int v13)), (zS I14 J15 tg))) rfl (Nat.le_of_ble_eq_true rfl) c25 ?_
      refine Runs.as (c' := (108, [.ref 93, .int x1, .int x2], [.int v13, .int 7, .ref 103], (zS I14 J15 tg))) rfl ?_
      refine Runs.sN 3 (c' := (112, [.ref 93, .int x1, .int x2], [], (zS (up2 I14 103 7 (v13 - 12)) J15 tg))) rfl ?_
      subst h
      exact Runs.rt rfl
    · rw [if_neg c24] at h
      refine Runs.brF (P := 0 ≤ v10) (a := 102) (b := 98) (L := [.ref 93, .int x1, .int x2]) (S := [.int 7, .ref 103]) (z := (zS I11 J12 tg)) rfl c24 ?_
      refine Runs.sN 3 (c' := (112, [.ref 93, .int x1, .int x2], [], (zS (up2 I11 103 7 (-1)) J12 tg))) rfl ?_
      subst h
      exact Runs.rt rfl
  · rw [if_neg c20] at h
    refine Runs.brF (P := v1 ≤ x2) (a := 58) (b := 32) (L := [.ref 93, .int x1, .int x2]) (S := []) (z := (zS I2 J3 tg)) rfl c20 ?_
    refine Runs.sN 7 (c' := (41, [.ref 93, .int x1, .int x2], [.int (4 + x2), .int x1, .ref 93, .ref 103], (zS I2 J3 tg))) rfl ?_
    obtain ⟨v16, I17, J18, c26, h⟩ := h
    refine Runs.cl (cm := 184) (as := [.ref 93, .int x1, .int (4 + x2)]) (rest := [.ref 103]) (r1 := ((some (.int v16)), (zS I17 J18 tg))) rfl (Nat.le_of_ble_eq_true rfl) c26 ?_
    refine Runs.as (c' := (44, [.ref 93, .int x1, .int x2], [.int v16, .ref 103], (zS I17 J18 tg))) rfl ?_
    refine Runs.sN 3 (c' := (48, [.ref 93, .int x1, .int x2], [.int (v16 / 36), .ref 103, .int (v16 / 36), .ref 103], (zS I17 J18 tg))) rfl ?_
    obtain ⟨c27, h⟩ := h
    refine Runs.to (c' := (49, [.ref 93, .int x1, .int x2], [.int (I17 103 ((v16 / 36).toNatClampNeg)), .int (v16 / 36), .ref 103], (zS I17 J18 tg))) (Runs.ild rfl (show (103 : Nat) < 114 by decide) rfl c27) ?_
    refine Runs.sN 2 (c' := (51, [.ref 93, .int x1, .int x2], [.int ((I17 103 ((v16 / 36).toNatClampNeg)) + 1), .int (v16 / 36), .ref 103], (zS I17 J18 tg))) rfl ?_
    obtain ⟨c28, h⟩ := h
    refine Runs.to (c' := (52, [.ref 93, .int x1, .int x2], [], (zS (up2 I17 103 ((v16 / 36).toNatClampNeg) ((I17 103 ((v16 / 36).toNatClampNeg)) + 1)) J18 tg))) (Runs.ist rfl (show (103 : Nat) < 114 by decide) rfl c28) ?_
    refine Runs.sN 2 (c' := (22, [.ref 93, .int x1, .int (x2 + 1)], [], (zS (up2 I17 103 ((v16 / 36).toNatClampNeg) ((I17 103 ((v16 / 36).toNatClampNeg)) + 1)) J18 tg))) rfl ?_
    exact h
