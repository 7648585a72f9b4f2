-- X12_made 
theorem sg_259 {L d : Nat} {xs : Nat → Int32} (I : Nat → Nat → Int32) (J : Nat → Nat → Int64) (tg : Option Nat) (a1 : Int32) (a2 : Int32) (a3 : Int32) {r : Option Value × SS} (h : (∃ (v78 : Int32) (I79 : Nat → Nat → Int32) (J80 : Nat → Nat → Int64), Runs (GW L xs) d 179 (0, [.ref 93, .int a1], [], (zS I J tg)) ((some (.int v78)), (zS I79 J80 tg)) ∧ (if v78 = 0 then (Runs (GW L xs) (d + 1) 259 (24, [.ref 93, .int a1, .int a2, .int a3, vU, vU, vU, vU, vU], [], (zS I79 J80 tg)) r) else (∃ (v81 : Int32) (I82 : Nat → Nat → Int32) (J83 : Nat → Nat → Int64), Runs (GW L xs) d 182 (0, [.int a2], [], (zS I79 J80 tg)) ((some (.int v81)), (zS I82 J83 tg)) ∧ (if v81 = 0 then (Runs (GW L xs) (d + 1) 259 (24, [.ref 93, .int a1, .int a2, .int a3, vU, vU, vU, vU, vU], [], (zS I82 J83 tg)) r) else (∃ (v84 : Int32) (I85 : Nat → Nat → Int32) (J86 : Nat → Nat → Int64), Runs (GW L xs) d 177 (0, [.int a3, .int 0, .int 2], [], (zS I82 J83 tg)) ((some (.int v84)), (zS I85 J86 tg)) ∧ (if v84 = 0 then (Runs (GW L xs) (d + 1) 259 (24, [.ref 93, .int a1, .int a2, .int a3, vU, vU, vU, vU, vU], [], (zS I85 J86 tg)) r) else (Runs (GW L xs) (d + 1) 259 (35, [.ref 93, .int a1, .int a2, .int a3, .int (-1), .int 0, .int 0, vU, vU], [], (zS I85 J86 tg)) r)))))))) : Runs (GW L xs) (d + 1) 259 (0, [.ref 93, .int a1, .int a2, .int a3, vU, vU, vU, vU, vU], [], (zS I J tg)) r := by
  refine Runs.sN 2 (c' := (2, [.ref 93, .int a1, .int a2, .int a3, vU, vU, vU, vU, vU], [.int a1, .ref 93], (zS I J tg))) rfl ?_
  obtain ⟨v78, I79, J80, c87, h⟩ := h
  refine Runs.cl (cm := 179) (as := [.ref 93, .int a1]) (rest := []) (r1 := ((some (.int v78)), (zS I79 J80 tg))) rfl (Nat.le_of_ble_eq_true rfl) c87 ?_
  refine Runs.as (c' := (5, [.ref 93, .int a1, .int a2, .int a3, vU, vU, vU, vU, vU], [.int v78], (zS I79 J80 tg))) rfl ?_
  by_cases c88 : v78 = 0
  · rw [if_pos c88] at h
    refine Runs.brT (P := v78 = 0) (a := 24) (b := 8) (L := [.ref 93, .int a1, .int a2, .int a3, vU, vU, vU, vU, vU]) (S := []) (z := (zS I79 J80 tg)) rfl c88 ?_
    exact h
  · rw [if_neg c88] at h
    refine Runs.brF (P := v78 = 0) (a := 24) (b := 8) (L := [.ref 93, .int a1, .int a2, .int a3, vU, vU, vU, vU, vU]) (S := []) (z := (zS I79 J80 tg)) rfl c88 ?_
    refine Runs.sN 1 (c' := (9, [.ref 93, .int a1, .int a2, .int a3, vU, vU, vU, vU, vU], [.int a2], (zS I79 J80 tg))) rfl ?_
    obtain ⟨v81, I82, J83, c89, h⟩ := h
    refine Runs.cl (cm := 182) (as := [.int a2]) (rest := []) (r1 := ((some (.int v81)), (zS I82 J83 tg))) rfl (Nat.le_of_ble_eq_true rfl) c89 ?_
    refine Runs.as (c' := (12, [.ref 93, .int a1, .int a2, .int a3, vU, vU, vU, vU, vU], [.int v81], (zS I82 J83 tg))) rfl ?_
    by_cases c90 : v81 = 0
    · rw [if_pos c90] at h
      refine Runs.brT (P := v81 = 0) (a := 24) (b := 15) (L := [.ref 93, .int a1, .int a2, .int a3, vU, vU, vU, vU, vU]) (S := []) (z := (zS I82 J83 tg)) rfl c90 ?_
      exact h
    · rw [if_neg c90] at h
      refine Runs.brF (P := v81 = 0) (a := 24) (b := 15) (L := [.ref 93, .int a1, .int a2, .int a3, vU, vU, vU, vU, vU]) (S := []) (z := (zS I82 J83 tg)) rfl c90 ?_
      refine Runs.sN 3 (c' := (18, [.ref 93, .int a1, .int a2, .int a3, vU, vU, vU, vU, vU], [.int 2, .int 0, .int a3], (zS I82 J83 tg))) rfl ?_
      obtain ⟨v84, I85, J86, c91, h⟩ := h
      refine Runs.cl (cm := 177) (as := [.int a3, .int 0, .int 2]) (rest := []) (r1 := ((some (.int v84)), (zS I85 J86 tg))) rfl (Nat.le_of_ble_eq_true rfl) c91 ?_
      refine Runs.as (c' := (21, [.ref 93, .int a1, .int a2, .int a3, vU, vU, vU, vU, vU], [.int v84], (zS I85 J86 tg))) rfl ?_
      by_cases c92 : v84 = 0
      · rw [if_pos c92] at h
        refine Runs.brT (P := v84 = 0) (a := 24) (b := 26) (L := [.ref 93, .int a1, .int a2, .int a3, vU, vU, vU, vU, vU]) (S := []) (z := (zS I85 J86 tg)) rfl c92 ?_
        exact h
      · rw [if_neg c92] at h
        refine Runs.brF (P := v84 = 0) (a := 24) (b := 26) (L := [.ref 93, .int a1, .int a2, .int a3, vU, vU, vU, vU, vU]) (S := []) (z := (zS I85 J86 tg)) rfl c92 ?_
        refine Runs.sN 6 (c' := (35, [.ref 93, .int a1, .int a2, .int a3, .int (-1), .int 0, .int 0, vU, vU], [], (zS I85 J86 tg))) rfl ?_
        exact h
theorem sg_259_24 {L d : Nat} {xs : Nat → Int32} (I : Nat → Nat → Int32) (J : Nat → Nat → Int64) (tg : Option Nat) (x1 : Int32) (x2 : Int32) (x3 : Int32) {r : Option Value × SS} (h : (r = (some (.int (-1)), (zS I J tg)))) : Runs (GW L xs) (d + 1) 259 (24, [.ref 93, .int x1, .int x2, .int x3, vU, vU, vU, vU, vU], [], (zS I J tg)) r := by
  refine Runs.sN 1 (c' := (25, [.ref 93, .int x1, .int x2, .int x3, vU, vU, vU, vU, vU], [.int (-1)], (zS I J tg))) rfl ?_
  subst h
  exact Runs.rt rfl
theorem sg_259_35 {L d : Nat} {xs : Nat → Int32} (I : Nat → Nat → Int32) (J : Nat → Nat → Int64) (tg : Option Nat) (x1 : Int32) (x2 : Int32) (x3 : Int32) (x4 : Int32) (x5 : Int32) (x6 : Int32) {r : Option Value × SS} (h : ((if 6 < x6 then ((if x4 < 0 then (Runs (GW L xs) (d + 1) 259 (151, [.ref 93, .int x1, .int x2, .int x3, .int x4, .int x5, .int x6, vU, vU], [], (zS I J tg)) r) else ((if 2 ≤ x3 then (¬ ((20 + (22 * x1)) < 0 ∨ 1200 ≤ (20 + (22 * x1)).toNatClampNeg) ∧ ∃ (I1 : Nat → Nat → Int32) (J2 : Nat → Nat → Int64), Runs (GW L xs) d 258 (0, [.ref 93, .int x1, .int x4, vU], [], (zS (up2 I 94 ((20 + (22 * x1)).toNatClampNeg) 0) J tg)) (none, (zS I1 J2 tg)) ∧ ∃ (v3 : Int32) (I4 : Nat → Nat → Int32) (J5 : Nat → Nat → Int64), Runs (GW L xs) d 184 (0, [.ref 93, .int x1, .int 0], [], (zS I1 J2 tg)) ((some (.int v3)), (zS I4 J5 tg)) ∧ r = (some (.int v3), (zS I4 J5 tg))) else (Runs (GW L xs) (d + 1) 259 (151, [.ref 93, .int x1, .int x2, .int x3, .int x4, .int x5, .int x6, vU, vU], [], (zS I J tg)) r))))) else (Runs (GW L xs) (d + 1) 259 (45, [.ref 93, .int x1, .int x2, .int x3, .int x4, .int x5, .int x6, .int 0, vU], [], (zS I J tg)) r)))) : Runs (GW L xs) (d + 1) 259 (35, [.ref 93, .int x1, .int x2, .int x3, .int x4, .int x5, .int x6, vU, vU], [], (zS I J tg)) r := by
  refine Runs.sN 2 (c' := (39, [.ref 93, .int x1, .int x2, .int x3, .int x4, .int x5, .int x6, vU, vU], [.int 6, .int x6], (zS I J tg))) rfl ?_
  by_cases c6 : 6 < x6
  · rw [if_pos c6] at h
    refine Runs.brT (P := 6 < x6) (a := 141) (b := 42) (L := [.ref 93, .int x1, .int x2, .int x3, .int x4, .int x5, .int x6, vU, vU]) (S := []) (z := (zS I J tg)) rfl c6 ?_
    refine Runs.sN 1 (c' := (143, [.ref 93, .int x1, .int x2, .int x3, .int x4, .int x5, .int x6, vU, vU], [.int x4], (zS I J tg))) rfl ?_
    by_cases c7 : x4 < 0
    · rw [if_pos c7] at h
      refine Runs.brT (P := x4 < 0) (a := 151) (b := 146) (L := [.ref 93, .int x1, .int x2, .int x3, .int x4, .int x5, .int x6, vU, vU]) (S := []) (z := (zS I J tg)) rfl c7 ?_
      exact h
    · rw [if_neg c7] at h
      refine Runs.brF (P := x4 < 0) (a := 151) (b := 146) (L := [.ref 93, .int x1, .int x2, .int x3, .int x4, .int x5, .int x6, vU, vU]) (S := []) (z := (zS I J tg)) rfl c7 ?_
      refine Runs.sN 2 (c' := (148, [.ref 93, .int x1, .int x2, .int x3, .int x4, .int x5, .int x6, vU, vU], [.int 2, .int x3], (zS I J tg))) rfl ?_
      by_cases c8 : 2 ≤ x3
      · rw [if_pos c8] at h
        refine Runs.brT (P := 2 ≤ x3) (a := 168) (b := 151) (L := [.ref 93, .int x1, .int x2, .int x3, .int x4, .int x5, .int x6, vU, vU]) (S := []) (z := (zS I J tg)) rfl c8 ?_
        refine Runs.sN 8 (c' := (180, [.ref 93, .int x1, .int x2, .int x3, .int x4, .int x5, .int x6, vU, vU], [.int 0, .int (20 + (22 * x1)), .ref 94], (zS I J tg))) rfl ?_
        obtain ⟨c9, h⟩ := h
        refine Runs.to (c' := (181, [.ref 93, .int x1, .int x2, .int x3, .int x4, .int x5, .int x6, vU, vU], [], (zS (up2 I 94 ((20 + (22 * x1)).toNatClampNeg) 0) J tg))) (Runs.ist rfl (show (94 : Nat) < 114 by decide) rfl c9) ?_
        refine Runs.sN 3 (c' := (185, [.ref 93, .int x1, .int x2, .int x3, .int x4, .int x5, .int x6, vU, vU], [.int x4, .int x1, .ref 93], (zS (up2 I 94 ((20 + (22 * x1)).toNatClampNeg) 0) J tg))) rfl ?_
        obtain ⟨I1, J2, c10, h⟩ := h
        refine Runs.cl (cm := 258) (as := [.ref 93, .int x1, .int x4]) (rest := []) (r1 := (none, (zS I1 J2 tg))) rfl (Nat.le_of_ble_eq_true rfl) c10 ?_
        refine Runs.as (c' := (188, [.ref 93, .int x1, .int x2, .int x3, .int x4, .int x5, .int x6, vU, vU], [], (zS I1 J2 tg))) rfl ?_
        refine Runs.sN 3 (c' := (191, [.ref 93, .int x1, .int x2, .int x3, .int x4, .int x5, .int x6, vU, vU], [.int 0, .int x1, .ref 93], (zS I1 J2 tg))) rfl ?_
        obtain ⟨v3, I4, J5, c11, h⟩ := h
        refine Runs.cl (cm := 184) (as := [.ref 93, .int x1, .int 0]) (rest := []) (r1 := ((some (.int v3)), (zS I4 J5 tg))) rfl (Nat.le_of_ble_eq_true rfl) c11 ?_
        refine Runs.as (c' := (194, [.ref 93, .int x1, .int x2, .int x3, .int x4, .int x5, .int x6, vU, vU], [.int v3], (zS I4 J5 tg))) rfl ?_
        subst h
        exact Runs.rt rfl
      · rw [if_neg c8] at h
        refine Runs.brF (P := 2 ≤ x3) (a := 168) (b := 151) (L := [.ref 93, .int x1, .int x2, .int x3, .int x4, .int x5, .int x6, vU, vU]) (S := []) (z := (zS I J tg)) rfl c8 ?_
        exact h
  · rw [if_neg c6] at h
    refine Runs.brF (P := 6 < x6) (a := 141) (b := 42) (L := [.ref 93, .int x1, .int x2, .int x3, .int x4, .int x5, .int x6, vU, vU]) (S := []) (z := (zS I J tg)) rfl c6 ?_
    refine Runs.sN 2 (c' := (45, [.ref 93, .int x1, .int x2, .int x3, .int x4, .int x5, .int x6, .int 0, vU], [], (zS I J tg))) rfl ?_
    exact h
theorem sg_259_45 {L d : Nat} {xs : Nat → Int32} (I : Nat → Nat → Int32) (J : Nat → Nat → Int64) (tg : Option Nat) (x1 : Int32) (x2 : Int32) (x3 : Int32) (x4 : Int32) (x5 : Int32) (x6 : Int32) (x7 : Int32) {r : Option Value × SS} (h : ((if (1 <<< ((I 94 5) &&& 31)) ≤ x7 then (Runs (GW L xs) (d + 1) 259 (35, [.ref 93, .int x1, .int x2, .int x3, .int x4, .int x5, .int (x6 + 1), vU, vU], [], (zS I J tg)) r) else (∃ (v1 : Int32) (I2 : Nat → Nat → Int32) (J3 : Nat → Nat → Int64), Runs (GW L xs) d 185 (0, [.int x7, vU, vU], [], (zS I J tg)) ((some (.int v1)), (zS I2 J3 tg)) ∧ (if v1 = x6 then (∃ (I4 : Nat → Nat → Int32) (J5 : Nat → Nat → Int64), Runs (GW L xs) d 257 (0, [.ref 93, .int x1, vU], [], (zS I2 J3 tg)) (none, (zS I4 J5 tg)) ∧ ∃ (I6 : Nat → Nat → Int32) (J7 : Nat → Nat → Int64), Runs (GW L xs) d 258 (0, [.ref 93, .int 24, .int x7, vU], [], (zS I4 J5 tg)) (none, (zS I6 J7 tg)) ∧ ∃ (v8 : Int32) (I9 : Nat → Nat → Int32) (J10 : Nat → Nat → Int64), Runs (GW L xs) d 243 (0, [.ref 93, .int 24], [], (zS I6 J7 tg)) ((some (.int v8)), (zS I9 J10 tg)) ∧ (if v8 = 0 then (Runs (GW L xs) (d + 1) 259 (129, [.ref 93, .int x1, .int x2, .int x3, .int x4, .int x5, .int x6, .int x7, vU], [], (zS I9 J10 tg)) r) else (∃ (v11 : Int32) (I12 : Nat → Nat → Int32) (J13 : Nat → Nat → Int64), Runs (GW L xs) d 252 (0, [.ref 93, .int 24, .int x1, .int x2, vU, vU], [], (zS I9 J10 tg)) ((some (.int v11)), (zS I12 J13 tg)) ∧ (if x4 < 0 then (Runs (GW L xs) (d + 1) 259 (121, [.ref 93, .int x1, .int x2, .int x3, .int x4, .int x5, .int x6, .int x7, .int v11], [], (zS I12 J13 tg)) r) else ((if v11 < x5 then (Runs (GW L xs) (d + 1) 259 (121, [.ref 93, .int x1, .int x2, .int x3, .int x4, .int x5, .int x6, .int x7, .int v11], [], (zS I12 J13 tg)) r) else (Runs (GW L xs) (d + 1) 259 (129, [.ref 93, .int x1, .int x2, .int x3, .int x4, .int x5, .int x6, .int x7, vU], [], (zS I12 J13 tg)) r))))))) else (Runs (GW L xs) (d + 1) 259 (129, [.ref 93, .int x1, .int x2, .int x3, .int x4, .int x5, .int x6, .int x7, vU], [], (zS I2 J3 tg)) r)))))) : Runs (GW L xs) (d + 1) 259 (45, [.ref 93, .int x1, .int x2, .int x3, .int x4, .int x5, .int x6, .int x7, vU], [], (zS I J tg)) r := by
  refine Runs.sN 7 (c' := (55, [.ref 93, .int x1, .int x2, .int x3, .int x4, .int x5, .int x6, .int x7, vU], [.int (1 <<< ((I 94 5) &&& 31)), .int x7], (zS I J tg))) rfl ?_
  by_cases c14 : (1 <<< ((I 94 5) &&& 31)) ≤ x7
  · rw [if_pos c14] at h
    refine Runs.brT (P := (1 <<< ((I 94 5) &&& 31)) ≤ x7) (a := 135) (b := 58) (L := [.ref 93, .int x1, .int x2, .int x3, .int x4, .int x5, .int x6, .int x7, vU]) (S := []) (z := (zS I J tg)) rfl c14 ?_
    refine Runs.sN 2 (c' := (35, [.ref 93, .int x1, .int x2, .int x3, .int x4, .int x5, .int (x6 + 1), .int x7, vU], [], (zS I J tg))) rfl ?_
    exact Runs.weak (L := [.ref 93, .int x1, .int x2, .int x3, .int x4, .int x5, .int (x6 + 1), vU, vU]) (Lle.k (Lle.k (Lle.k (Lle.k (Lle.k (Lle.k (Lle.k (Lle.u (Lle.k Lle.n))))))))) h
  · rw [if_neg c14] at h
    refine Runs.brF (P := (1 <<< ((I 94 5) &&& 31)) ≤ x7) (a := 135) (b := 58) (L := [.ref 93, .int x1, .int x2, .int x3, .int x4, .int x5, .int x6, .int x7, vU]) (S := []) (z := (zS I J tg)) rfl c14 ?_
    refine Runs.sN 1 (c' := (60, [.ref 93, .int x1, .int x2, .int x3, .int x4, .int x5, .int x6, .int x7, vU], [.int x7], (zS I J tg))) rfl ?_
    obtain ⟨v1, I2, J3, c15, h⟩ := h
    refine Runs.cl (cm := 185) (as := [.int x7]) (rest := []) (r1 := ((some (.int v1)), (zS I2 J3 tg))) rfl (Nat.le_of_ble_eq_true rfl) c15 ?_
    refine Runs.as (c' := (63, [.ref 93, .int x1, .int x2, .int x3, .int x4, .int x5, .int x6, .int x7, vU], [.int v1], (zS I2 J3 tg))) rfl ?_
    refine Runs.sN 1 (c' := (65, [.ref 93, .int x1, .int x2, .int x3, .int x4, .int x5, .int x6, .int x7, vU], [.int x6, .int v1], (zS I2 J3 tg))) rfl ?_
    by_cases c16 : v1 = x6
    · rw [if_pos c16] at h
      refine Runs.brT (P := v1 = x6) (a := 71) (b := 68) (L := [.ref 93, .int x1, .int x2, .int x3, .int x4, .int x5, .int x6, .int x7, vU]) (S := []) (z := (zS I2 J3 tg)) rfl c16 ?_
      refine Runs.sN 2 (c' := (73, [.ref 93, .int x1, .int x2, .int x3, .int x4, .int x5, .int x6, .int x7, vU], [.int x1, .ref 93], (zS I2 J3 tg))) rfl ?_
      obtain ⟨I4, J5, c17, h⟩ := h
      refine Runs.cl (cm := 257) (as := [.ref 93, .int x1]) (rest := []) (r1 := (none, (zS I4 J5 tg))) rfl (Nat.le_of_ble_eq_true rfl) c17 ?_
      refine Runs.as (c' := (76, [.ref 93, .int x1, .int x2, .int x3, .int x4, .int x5, .int x6, .int x7, vU], [], (zS I4 J5 tg))) rfl ?_
      refine Runs.sN 3 (c' := (81, [.ref 93, .int x1, .int x2, .int x3, .int x4, .int x5, .int x6, .int x7, vU], [.int x7, .int 24, .ref 93], (zS I4 J5 tg))) rfl ?_
      obtain ⟨I6, J7, c18, h⟩ := h
      refine Runs.cl (cm := 258) (as := [.ref 93, .int 24, .int x7]) (rest := []) (r1 := (none, (zS I6 J7 tg))) rfl (Nat.le_of_ble_eq_true rfl) c18 ?_
      refine Runs.as (c' := (84, [.ref 93, .int x1, .int x2, .int x3, .int x4, .int x5, .int x6, .int x7, vU], [], (zS I6 J7 tg))) rfl ?_
      refine Runs.sN 2 (c' := (87, [.ref 93, .int x1, .int x2, .int x3, .int x4, .int x5, .int x6, .int x7, vU], [.int 24, .ref 93], (zS I6 J7 tg))) rfl ?_
      obtain ⟨v8, I9, J10, c19, h⟩ := h
      refine Runs.cl (cm := 243) (as := [.ref 93, .int 24]) (rest := []) (r1 := ((some (.int v8)), (zS I9 J10 tg))) rfl (Nat.le_of_ble_eq_true rfl) c19 ?_
      refine Runs.as (c' := (90, [.ref 93, .int x1, .int x2, .int x3, .int x4, .int x5, .int x6, .int x7, vU], [.int v8], (zS I9 J10 tg))) rfl ?_
      by_cases c20 : v8 = 0
      · rw [if_pos c20] at h
        refine Runs.brT (P := v8 = 0) (a := 93) (b := 96) (L := [.ref 93, .int x1, .int x2, .int x3, .int x4, .int x5, .int x6, .int x7, vU]) (S := []) (z := (zS I9 J10 tg)) rfl c20 ?_
        refine Runs.sN 1 (c' := (129, [.ref 93, .int x1, .int x2, .int x3, .int x4, .int x5, .int x6, .int x7, vU], [], (zS I9 J10 tg))) rfl ?_
        exact h
      · rw [if_neg c20] at h
        refine Runs.brF (P := v8 = 0) (a := 93) (b := 96) (L := [.ref 93, .int x1, .int x2, .int x3, .int x4, .int x5, .int x6, .int x7, vU]) (S := []) (z := (zS I9 J10 tg)) rfl c20 ?_
        refine Runs.sN 4 (c' := (101, [.ref 93, .int x1, .int x2, .int x3, .int x4, .int x5, .int x6, .int x7, vU], [.int x2, .int x1, .int 24, .ref 93], (zS I9 J10 tg))) rfl ?_
        obtain ⟨v11, I12, J13, c21, h⟩ := h
        refine Runs.cl (cm := 252) (as := [.ref 93, .int 24, .int x1, .int x2]) (rest := []) (r1 := ((some (.int v11)), (zS I12 J13 tg))) rfl (Nat.le_of_ble_eq_true rfl) c21 ?_
        refine Runs.as (c' := (104, [.ref 93, .int x1, .int x2, .int x3, .int x4, .int x5, .int x6, .int x7, vU], [.int v11], (zS I12 J13 tg))) rfl ?_
        refine Runs.sN 2 (c' := (108, [.ref 93, .int x1, .int x2, .int x3, .int x4, .int x5, .int x6, .int x7, .int v11], [.int x4], (zS I12 J13 tg))) rfl ?_
        by_cases c22 : x4 < 0
        · rw [if_pos c22] at h
          refine Runs.brT (P := x4 < 0) (a := 121) (b := 111) (L := [.ref 93, .int x1, .int x2, .int x3, .int x4, .int x5, .int x6, .int x7, .int v11]) (S := []) (z := (zS I12 J13 tg)) rfl c22 ?_
          exact h
        · rw [if_neg c22] at h
          refine Runs.brF (P := x4 < 0) (a := 121) (b := 111) (L := [.ref 93, .int x1, .int x2, .int x3, .int x4, .int x5, .int x6, .int x7, .int v11]) (S := []) (z := (zS I12 J13 tg)) rfl c22 ?_
          refine Runs.sN 2 (c' := (115, [.ref 93, .int x1, .int x2, .int x3, .int x4, .int x5, .int x6, .int x7, .int v11], [.int x5, .int v11], (zS I12 J13 tg))) rfl ?_
          by_cases c23 : v11 < x5
          · rw [if_pos c23] at h
            refine Runs.brT (P := v11 < x5) (a := 121) (b := 118) (L := [.ref 93, .int x1, .int x2, .int x3, .int x4, .int x5, .int x6, .int x7, .int v11]) (S := []) (z := (zS I12 J13 tg)) rfl c23 ?_
            exact h
          · rw [if_neg c23] at h
            refine Runs.brF (P := v11 < x5) (a := 121) (b := 118) (L := [.ref 93, .int x1, .int x2, .int x3, .int x4, .int x5, .int x6, .int x7, .int v11]) (S := []) (z := (zS I12 J13 tg)) rfl c23 ?_
            refine Runs.sN 1 (c' := (129, [.ref 93, .int x1, .int x2, .int x3, .int x4, .int x5, .int x6, .int x7, .int v11], [], (zS I12 J13 tg))) rfl ?_
            exact Runs.weak (L := [.ref 93, .int x1, .int x2, .int x3, .int x4, .int x5, .int x6, .int x7, vU]) (Lle.k (Lle.k (Lle.k (Lle.k (Lle.k (Lle.k (Lle.k (Lle.k (Lle.u Lle.n))))))))) h
    · rw [if_neg c16] at h
      refine Runs.brF (P := v1 = x6) (a := 71) (b := 68) (L := [.ref 93, .int x1, .int x2, .int x3, .int x4, .int x5, .int x6, .int x7, vU]) (S := []) (z := (zS I2 J3 tg)) rfl c16 ?_
      refine Runs.sN 1 (c' := (129, [.ref 93, .int x1, .int x2, .int x3, .int x4, .int x5, .int x6, .int x7, vU], [], (zS I2 J3 tg))) rfl ?_
      exact h
theorem sg_259_121 {L d : Nat} {xs : Nat → Int32} (I : Nat → Nat → Int32) (J : Nat → Nat → Int64) (tg : Option Nat) (x1 : Int32) (x2 : Int32) (x3 : Int32) (x4 : Int32) (x5 : Int32) (x6 : Int32) (x7 : Int32) (x8 : Int32) {r : Option Value × SS} (h : (Runs (GW L xs) (d + 1) 259 (129, [.ref 93, .int x1, .int x2, .int x3, .int x7, .int x8, .int x6, .int x7, vU], [], (zS I J tg)) r)) : Runs (GW L xs) (d + 1) 259 (121, [.ref 93, .int x1, .int x2, .int x3, .int x4, .int x5, .int x6, .int x7, .int x8], [], (zS I J tg)) r := by
  refine Runs.sN 4 (c' := (129, [.ref 93, .int x1, .int x2, .int x3, .int x7, .int x8, .int x6, .int x7, .int x8], [], (zS I J tg))) rfl ?_
  exact Runs.weak (L := [.ref 93, .int x1, .int x2, .int x3, .int x7, .int x8, .int x6, .int x7, vU]) (Lle.k (Lle.k (Lle.k (Lle.k (Lle.k (Lle.k (Lle.k (Lle.k (Lle.u Lle.n))))))))) h
theorem sg_259_129 {L d : Nat} {xs : Nat → Int32} (I : Nat → Nat → Int32) (J : Nat → Nat → Int64) (tg : Option Nat) (x1 : Int32) (x2 : Int32) (x3 : Int32) (x4 : Int32) (x5 : Int32) (x6 : Int32) (x7 : Int32) {r : Option Value × SS} (h : (Runs (GW L xs) (d + 1) 259 (45, [.ref 93, .int x1, .int x2, .int x3, .int x4, .int x5, .int x6, .int (x7 + 1), vU], [], (zS I J tg)) r)) : Runs (GW L xs) (d + 1) 259 (129, [.ref 93, .int x1, .int x2, .int x3, .int x4, .int x5, .int x6, .int x7, vU], [], (zS I J tg)) r := by
  refine Runs.sN 2 (c' := (45, [.ref 93, .int x1, .int x2, .int x3, .int x4, .int x5, .int x6, .int (x7 + 1), vU], [], (zS I J tg))) rfl ?_
  exact h
theorem sg_259_151 {L d : Nat} {xs : Nat → Int32} (I : Nat → Nat → Int32) (J : Nat → Nat → Int64) (tg : Option Nat) (x1 : Int32) (x2 : Int32) (x3 : Int32) (x4 : Int32) (x5 : Int32) (x6 : Int32) {r : Option Value × SS} (h : ((if x4 < 0 then (Runs (GW L xs) (d + 1) 259 (160, [.ref 93, .int x1, .int x2, .int x3, .int x4, .int x5, .int x6, vU, vU], [], (zS I J tg)) r) else ((if x3 = 0 then (Runs (GW L xs) (d + 1) 259 (160, [.ref 93, .int x1, .int x2, .int x3, .int x4, .int x5, .int x6, vU, vU], [], (zS I J tg)) r) else (Runs (GW L xs) (d + 1) 259 (167, [.ref 93, .int x1, .int x2, .int x3, .int x4, .int x5, .int x6, vU, vU], [.int x5], (zS I J tg)) r)))))) : Runs (GW L xs) (d + 1) 259 (151, [.ref 93, .int x1, .int x2, .int x3, .int x4, .int x5, .int x6, vU, vU], [], (zS I J tg)) r := by
  refine Runs.sN 1 (c' := (153, [.ref 93, .int x1, .int x2, .int x3, .int x4, .int x5, .int x6, vU, vU], [.int x4], (zS I J tg))) rfl ?_
  by_cases c1 : x4 < 0
  · rw [if_pos c1] at h
    refine Runs.brT (P := x4 < 0) (a := 160) (b := 156) (L := [.ref 93, .int x1, .int x2, .int x3, .int x4, .int x5, .int x6, vU, vU]) (S := []) (z := (zS I J tg)) rfl c1 ?_
    exact h
  · rw [if_neg c1] at h
    refine Runs.brF (P := x4 < 0) (a := 160) (b := 156) (L := [.ref 93, .int x1, .int x2, .int x3, .int x4, .int x5, .int x6, vU, vU]) (S := []) (z := (zS I J tg)) rfl c1 ?_
    refine Runs.sN 1 (c' := (157, [.ref 93, .int x1, .int x2, .int x3, .int x4, .int x5, .int x6, vU, vU], [.int x3], (zS I J tg))) rfl ?_
    by_cases c2 : x3 = 0
    · rw [if_pos c2] at h
      refine Runs.brT (P := x3 = 0) (a := 160) (b := 165) (L := [.ref 93, .int x1, .int x2, .int x3, .int x4, .int x5, .int x6, vU, vU]) (S := []) (z := (zS I J tg)) rfl c2 ?_
      exact h
    · rw [if_neg c2] at h
      refine Runs.brF (P := x3 = 0) (a := 160) (b := 165) (L := [.ref 93, .int x1, .int x2, .int x3, .int x4, .int x5, .int x6, vU, vU]) (S := []) (z := (zS I J tg)) rfl c2 ?_
      refine Runs.sN 1 (c' := (167, [.ref 93, .int x1, .int x2, .int x3, .int x4, .int x5, .int x6, vU, vU], [.int x5], (zS I J tg))) rfl ?_
      exact h
theorem sg_259_160 {L d : Nat} {xs : Nat → Int32} (I : Nat → Nat → Int32) (J : Nat → Nat → Int64) (tg : Option Nat) (x1 : Int32) (x2 : Int32) (x3 : Int32) (x4 : Int32) (x5 : Int32) (x6 : Int32) {r : Option Value × SS} (h : (Runs (GW L xs) (d + 1) 259 (167, [.ref 93, .int x1, .int x2, .int x3, .int x4, .int x5, .int x6, vU, vU], [.int x4], (zS I J tg)) r)) : Runs (GW L xs) (d + 1) 259 (160, [.ref 93, .int x1, .int x2, .int x3, .int x4, .int x5, .int x6, vU, vU], [], (zS I J tg)) r := by
  refine Runs.sN 2 (c' := (167, [.ref 93, .int x1, .int x2, .int x3, .int x4, .int x5, .int x6, vU, vU], [.int x4], (zS I J tg))) rfl ?_
  exact h
theorem sg_259_167 {L d : Nat} {xs : Nat → Int32} (I : Nat → Nat → Int32) (J : Nat → Nat → Int64) (tg : Option Nat) (x1 : Int32) (x2 : Int32) (x3 : Int32) (x4 : Int32) (x5 : Int32) (x6 : Int32) (y0 : Int32) {r : Option Value × SS} (h : (r = (some (.int y0), (zS I J tg)))) : Runs (GW L xs) (d + 1) 259 (167, [.ref 93, .int x1, .int x2, .int x3, .int x4, .int x5, .int x6, vU, vU], [.int y0], (zS I J tg)) r := by
  subst h
  exact Runs.rt rfl
-- X12_isSet 
theorem sg_260 {L d : Nat} {xs : Nat → Int32} (I : Nat → Nat → Int32) (J : Nat → Nat → Int64) (tg : Option Nat) (a1 : Int32) {r : Option Value × SS} (h : (∃ (v4 : Int32) (I5 : Nat → Nat → Int32) (J6 : Nat → Nat → Int64), Runs (GW L xs) d 177 (0, [.int a1, .int 1, .int ((1 <<< ((I 94 1) &&& 31)) - 1)], [], (zS I J tg)) ((some (.int v4)), (zS I5 J6 tg)) ∧ (v4 = 0 ∨ v4 = 1) ∧ r = (some (.int v4), (zS I5 J6 tg)))) : Runs (GW L xs) (d + 1) 260 (0, [.ref 93, .int a1], [], (zS I J tg)) r := by
  refine Runs.sN 10 (c' := (12, [.ref 93, .int a1], [.int ((1 <<< ((I 94 1) &&& 31)) - 1), .int 1, .int a1], (zS I J tg))) rfl ?_
  obtain ⟨v4, I5, J6, c7, h⟩ := h
  refine Runs.cl (cm := 177) (as := [.int a1, .int 1, .int ((1 <<< ((I 94 1) &&& 31)) - 1)]) (rest := []) (r1 := ((some (.int v4)), (zS I5 J6 tg))) rfl (Nat.le_of_ble_eq_true rfl) c7 ?_
  refine Runs.as (c' := (15, [.ref 93, .int a1], [.int v4], (zS I5 J6 tg))) rfl ?_
  obtain ⟨h0, h⟩ := h
  subst h
  exact Runs.zrt rfl rfl h0
-- X12_least 
theorem sg_261 {L d : Nat} {xs : Nat → Int32} (I : Nat → Nat → Int32) (J : Nat → Nat → Int64) (tg : Option Nat) (a1 : Int32) (a2 : Int32) {r : Option Value × SS} (h : (∃ (v31 : Int32) (I32 : Nat → Nat → Int32) (J33 : Nat → Nat → Int64), Runs (GW L xs) d 260 (0, [.ref 93, .int a1], [], (zS I J tg)) ((some (.int v31)), (zS I32 J33 tg)) ∧ (if v31 = 0 then (r = (some (.int (-1)), (zS I32 J33 tg))) else (∃ (v34 : Int32) (I35 : Nat → Nat → Int32) (J36 : Nat → Nat → Int64), Runs (GW L xs) d 185 (0, [.int a1, vU, vU], [], (zS I32 J33 tg)) ((some (.int v34)), (zS I35 J36 tg)) ∧ (if v34 < 2 then (r = (some (.int (-1)), (zS I35 J36 tg))) else (∃ (v37 : Int32) (I38 : Nat → Nat → Int32) (J39 : Nat → Nat → Int64), Runs (GW L xs) d 177 (0, [.int a2, .int 0, .int 2], [], (zS I35 J36 tg)) ((some (.int v37)), (zS I38 J39 tg)) ∧ (if v37 = 0 then (r = (some (.int (-1)), (zS I38 J39 tg))) else (Runs (GW L xs) (d + 1) 261 (38, [.ref 93, .int a1, .int a2, .int (-1), .int (-1), .int 0, .int 0, vU, vU], [], (zS I38 J39 tg)) r)))))))) : Runs (GW L xs) (d + 1) 261 (0, [.ref 93, .int a1, .int a2, vU, vU, vU, vU, vU, vU], [], (zS I J tg)) r := by
  refine Runs.sN 2 (c' := (2, [.ref 93, .int a1, .int a2, vU, vU, vU, vU, vU, vU], [.int a1, .ref 93], (zS I J tg))) rfl ?_
  obtain ⟨v31, I32, J33, c40, h⟩ := h
  refine Runs.cl (cm := 260) (as := [.ref 93, .int a1]) (rest := []) (r1 := ((some (.int v31)), (zS I32 J33 tg))) rfl (Nat.le_of_ble_eq_true rfl) c40 ?_
  refine Runs.as (c' := (5, [.ref 93, .int a1, .int a2, vU, vU, vU, vU, vU, vU], [.int v31], (zS I32 J33 tg))) rfl ?_
  by_cases c41 : v31 = 0
  · rw [if_pos c41] at h
    refine Runs.brT (P := v31 = 0) (a := 25) (b := 8) (L := [.ref 93, .int a1, .int a2, vU, vU, vU, vU, vU, vU]) (S := []) (z := (zS I32 J33 tg)) rfl c41 ?_
    refine Runs.sN 1 (c' := (26, [.ref 93, .int a1, .int a2, vU, vU, vU, vU, vU, vU], [.int (-1)], (zS I32 J33 tg))) rfl ?_
    subst h
    exact Runs.rt rfl
  · rw [if_neg c41] at h
    refine Runs.brF (P := v31 = 0) (a := 25) (b := 8) (L := [.ref 93, .int a1, .int a2, vU, vU, vU, vU, vU, vU]) (S := []) (z := (zS I32 J33 tg)) rfl c41 ?_
    refine Runs.sN 1 (c' := (9, [.ref 93, .int a1, .int a2, vU, vU, vU, vU, vU, vU], [.int a1], (zS I32 J33 tg))) rfl ?_
    obtain ⟨v34, I35, J36, c42, h⟩ := h
    refine Runs.cl (cm := 185) (as := [.int a1]) (rest := []) (r1 := ((some (.int v34)), (zS I35 J36 tg))) rfl (Nat.le_of_ble_eq_true rfl) c42 ?_
    refine Runs.as (c' := (12, [.ref 93, .int a1, .int a2, vU, vU, vU, vU, vU, vU], [.int v34], (zS I35 J36 tg))) rfl ?_
    refine Runs.sN 1 (c' := (13, [.ref 93, .int a1, .int a2, vU, vU, vU, vU, vU, vU], [.int 2, .int v34], (zS I35 J36 tg))) rfl ?_
    by_cases c43 : v34 < 2
    · rw [if_pos c43] at h
      refine Runs.brT (P := v34 < 2) (a := 25) (b := 16) (L := [.ref 93, .int a1, .int a2, vU, vU, vU, vU, vU, vU]) (S := []) (z := (zS I35 J36 tg)) rfl c43 ?_
      refine Runs.sN 1 (c' := (26, [.ref 93, .int a1, .int a2, vU, vU, vU, vU, vU, vU], [.int (-1)], (zS I35 J36 tg))) rfl ?_
      subst h
      exact Runs.rt rfl
    · rw [if_neg c43] at h
      refine Runs.brF (P := v34 < 2) (a := 25) (b := 16) (L := [.ref 93, .int a1, .int a2, vU, vU, vU, vU, vU, vU]) (S := []) (z := (zS I35 J36 tg)) rfl c43 ?_
      refine Runs.sN 3 (c' := (19, [.ref 93, .int a1, .int a2, vU, vU, vU, vU, vU, vU], [.int 2, .int 0, .int a2], (zS I35 J36 tg))) rfl ?_
      obtain ⟨v37, I38, J39, c44, h⟩ := h
      refine Runs.cl (cm := 177) (as := [.int a2, .int 0, .int 2]) (rest := []) (r1 := ((some (.int v37)), (zS I38 J39 tg))) rfl (Nat.le_of_ble_eq_true rfl) c44 ?_
      refine Runs.as (c' := (22, [.ref 93, .int a1, .int a2, vU, vU, vU, vU, vU, vU], [.int v37], (zS I38 J39 tg))) rfl ?_
      by_cases c45 : v37 = 0
      · rw [if_pos c45] at h
        refine Runs.brT (P := v37 = 0) (a := 25) (b := 27) (L := [.ref 93, .int a1, .int a2, vU, vU, vU, vU, vU, vU]) (S := []) (z := (zS I38 J39 tg)) rfl c45 ?_
        refine Runs.sN 1 (c' := (26, [.ref 93, .int a1, .int a2, vU, vU, vU, vU, vU, vU], [.int (-1)], (zS I38 J39 tg))) rfl ?_
        subst h
        exact Runs.rt rfl
      · rw [if_neg c45] at h
        refine Runs.brF (P := v37 = 0) (a := 25) (b := 27) (L := [.ref 93, .int a1, .int a2, vU, vU, vU, vU, vU, vU]) (S := []) (z := (zS I38 J39 tg)) rfl c45 ?_
        refine Runs.sN 8 (c' := (38, [.ref 93, .int a1, .int a2, .int (-1), .int (-1), .int 0, .int 0, vU, vU], [], (zS I38 J39 tg))) rfl ?_
        exact h
theorem sg_261_38 {L d : Nat} {xs : Nat → Int32} (I : Nat → Nat → Int32) (J : Nat → Nat → Int64) (tg : Option Nat) (x1 : Int32) (x2 : Int32) (x3 : Int32) (x4 : Int32) (x5 : Int32) (x6 : Int32) {r : Option Value × SS} (h : ((if 12 ≤ x6 then ((if x2 = 0 then (r = (some (.int x5), (zS I J tg))) else ((if x2 = 1 then (r = (some (.int x3), (zS I J tg))) else (r = (some (.int x4), (zS I J tg))))))) else (Runs (GW L xs) (d + 1) 261 (51, [.ref 93, .int x1, .int x2, .int x3, .int x4, .int x5, .int x6, .int (x6 + 1), vU], [], (zS I J tg)) r)))) : Runs (GW L xs) (d + 1) 261 (38, [.ref 93, .int x1, .int x2, .int x3, .int x4, .int x5, .int x6, vU, vU], [], (zS I J tg)) r := by
  refine Runs.sN 2 (c' := (42, [.ref 93, .int x1, .int x2, .int x3, .int x4, .int x5, .int x6, vU, vU], [.int 12, .int x6], (zS I J tg))) rfl ?_
  by_cases c1 : 12 ≤ x6
  · rw [if_pos c1] at h
    refine Runs.brT (P := 12 ≤ x6) (a := 126) (b := 45) (L := [.ref 93, .int x1, .int x2, .int x3, .int x4, .int x5, .int x6, vU, vU]) (S := []) (z := (zS I J tg)) rfl c1 ?_
    refine Runs.sN 1 (c' := (127, [.ref 93, .int x1, .int x2, .int x3, .int x4, .int x5, .int x6, vU, vU], [.int x2], (zS I J tg))) rfl ?_
    by_cases c2 : x2 = 0
    · rw [if_pos c2] at h
      refine Runs.brT (P := x2 = 0) (a := 130) (b := 135) (L := [.ref 93, .int x1, .int x2, .int x3, .int x4, .int x5, .int x6, vU, vU]) (S := []) (z := (zS I J tg)) rfl c2 ?_
      refine Runs.sN 2 (c' := (146, [.ref 93, .int x1, .int x2, .int x3, .int x4, .int x5, .int x6, vU, vU], [.int x5], (zS I J tg))) rfl ?_
      subst h
      exact Runs.rt rfl
    · rw [if_neg c2] at h
      refine Runs.brF (P := x2 = 0) (a := 130) (b := 135) (L := [.ref 93, .int x1, .int x2, .int x3, .int x4, .int x5, .int x6, vU, vU]) (S := []) (z := (zS I J tg)) rfl c2 ?_
      refine Runs.sN 2 (c' := (137, [.ref 93, .int x1, .int x2, .int x3, .int x4, .int x5, .int x6, vU, vU], [.int 1, .int x2], (zS I J tg))) rfl ?_
      by_cases c3 : x2 = 1
      · rw [if_pos c3] at h
        refine Runs.brT (P := x2 = 1) (a := 140) (b := 144) (L := [.ref 93, .int x1, .int x2, .int x3, .int x4, .int x5, .int x6, vU, vU]) (S := []) (z := (zS I J tg)) rfl c3 ?_
        refine Runs.sN 2 (c' := (146, [.ref 93, .int x1, .int x2, .int x3, .int x4, .int x5, .int x6, vU, vU], [.int x3], (zS I J tg))) rfl ?_
        subst h
        exact Runs.rt rfl
      · rw [if_neg c3] at h
        refine Runs.brF (P := x2 = 1) (a := 140) (b := 144) (L := [.ref 93, .int x1, .int x2, .int x3, .int x4, .int x5, .int x6, vU, vU]) (S := []) (z := (zS I J tg)) rfl c3 ?_
        refine Runs.sN 1 (c' := (146, [.ref 93, .int x1, .int x2, .int x3, .int x4, .int x5, .int x6, vU, vU], [.int x4], (zS I J tg))) rfl ?_
        subst h
        exact Runs.rt rfl
  · rw [if_neg c1] at h
    refine Runs.brF (P := 12 ≤ x6) (a := 126) (b := 45) (L := [.ref 93, .int x1, .int x2, .int x3, .int x4, .int x5, .int x6, vU, vU]) (S := []) (z := (zS I J tg)) rfl c1 ?_
    refine Runs.sN 4 (c' := (51, [.ref 93, .int x1, .int x2, .int x3, .int x4, .int x5, .int x6, .int (x6 + 1), vU], [], (zS I J tg))) rfl ?_
    exact h
theorem sg_261_51 {L d : Nat} {xs : Nat → Int32} (I : Nat → Nat → Int32) (J : Nat → Nat → Int64) (tg : Option Nat) (x1 : Int32) (x2 : Int32) (x3 : Int32) (x4 : Int32) (x5 : Int32) (x6 : Int32) (x7 : Int32) {r : Option Value × SS} (h : ((if 12 ≤ x7 then (Runs (GW L xs) (d + 1) 261 (38, [.ref 93, .int x1, .int x2, .int x3, .int x4, .int x5, .int (x6 + 1), vU, vU], [], (zS I J tg)) r) else ((if ((x1 >>> (x6 &&& 31)) &&& 1) = 0 then (Runs (GW L xs) (d + 1) 261 (51, [.ref 93, .int x1, .int x2, .int x3, .int x4, .int x5, .int x6, .int (x7 + 1), vU], [], (zS I J tg)) r) else ((if ((x1 >>> (x7 &&& 31)) &&& 1) = 0 then (Runs (GW L xs) (d + 1) 261 (51, [.ref 93, .int x1, .int x2, .int x3, .int x4, .int x5, .int x6, .int (x7 + 1), vU], [], (zS I J tg)) r) else (∃ (v1 : Int32) (I2 : Nat → Nat → Int32) (J3 : Nat → Nat → Int64), Runs (GW L xs) d 197 (0, [.ref 93, .int x6, .int x7, vU, vU, vU, vU, vU, vU, vU], [], (zS I J tg)) ((some (.int v1)), (zS I2 J3 tg)) ∧ (if x3 < 0 then (Runs (GW L xs) (d + 1) 261 (51, [.ref 93, .int x1, .int x2, .int x6, .int x7, .int v1, .int x6, .int (x7 + 1), vU], [], (zS I2 J3 tg)) r) else ((if v1 < x5 then (Runs (GW L xs) (d + 1) 261 (51, [.ref 93, .int x1, .int x2, .int x6, .int x7, .int v1, .int x6, .int (x7 + 1), vU], [], (zS I2 J3 tg)) r) else (Runs (GW L xs) (d + 1) 261 (51, [.ref 93, .int x1, .int x2, .int x3, .int x4, .int x5, .int x6, .int (x7 + 1), vU], [], (zS I2 J3 tg)) r)))))))))))) : Runs (GW L xs) (d + 1) 261 (51, [.ref 93, .int x1, .int x2, .int x3, .int x4, .int x5, .int x6, .int x7, vU], [], (zS I J tg)) r := by
  refine Runs.sN 2 (c' := (55, [.ref 93, .int x1, .int x2, .int x3, .int x4, .int x5, .int x6, .int x7, vU], [.int 12, .int x7], (zS I J tg))) rfl ?_
  by_cases c4 : 12 ≤ x7
  · rw [if_pos c4] at h
    refine Runs.brT (P := 12 ≤ x7) (a := 120) (b := 58) (L := [.ref 93, .int x1, .int x2, .int x3, .int x4, .int x5, .int x6, .int x7, vU]) (S := []) (z := (zS I J tg)) rfl c4 ?_
    refine Runs.sN 2 (c' := (38, [.ref 93, .int x1, .int x2, .int x3, .int x4, .int x5, .int (x6 + 1), .int x7, vU], [], (zS I J tg))) rfl ?_
    exact Runs.weak (L := [.ref 93, .int x1, .int x2, .int x3, .int x4, .int x5, .int (x6 + 1), vU, vU]) (Lle.k (Lle.k (Lle.k (Lle.k (Lle.k (Lle.k (Lle.k (Lle.u (Lle.k Lle.n))))))))) h
  · rw [if_neg c4] at h
    refine Runs.brF (P := 12 ≤ x7) (a := 120) (b := 58) (L := [.ref 93, .int x1, .int x2, .int x3, .int x4, .int x5, .int x6, .int x7, vU]) (S := []) (z := (zS I J tg)) rfl c4 ?_
    refine Runs.sN 5 (c' := (64, [.ref 93, .int x1, .int x2, .int x3, .int x4, .int x5, .int x6, .int x7, vU], [.int ((x1 >>> (x6 &&& 31)) &&& 1)], (zS I J tg))) rfl ?_
    by_cases c5 : ((x1 >>> (x6 &&& 31)) &&& 1) = 0
    · rw [if_pos c5] at h
      refine Runs.brT (P := ((x1 >>> (x6 &&& 31)) &&& 1) = 0) (a := 114) (b := 67) (L := [.ref 93, .int x1, .int x2, .int x3, .int x4, .int x5, .int x6, .int x7, vU]) (S := []) (z := (zS I J tg)) rfl c5 ?_
      refine Runs.sN 2 (c' := (51, [.ref 93, .int x1, .int x2, .int x3, .int x4, .int x5, .int x6, .int (x7 + 1), vU], [], (zS I J tg))) rfl ?_
      exact h
    · rw [if_neg c5] at h
      refine Runs.brF (P := ((x1 >>> (x6 &&& 31)) &&& 1) = 0) (a := 114) (b := 67) (L := [.ref 93, .int x1, .int x2, .int x3, .int x4, .int x5, .int x6, .int x7, vU]) (S := []) (z := (zS I J tg)) rfl c5 ?_
      refine Runs.sN 5 (c' := (73, [.ref 93, .int x1, .int x2, .int x3, .int x4, .int x5, .int x6, .int x7, vU], [.int ((x1 >>> (x7 &&& 31)) &&& 1)], (zS I J tg))) rfl ?_
      by_cases c6 : ((x1 >>> (x7 &&& 31)) &&& 1) = 0
      · rw [if_pos c6] at h
        refine Runs.brT (P := ((x1 >>> (x7 &&& 31)) &&& 1) = 0) (a := 76) (b := 79) (L := [.ref 93, .int x1, .int x2, .int x3, .int x4, .int x5, .int x6, .int x7, vU]) (S := []) (z := (zS I J tg)) rfl c6 ?_
        refine Runs.sN 3 (c' := (51, [.ref 93, .int x1, .int x2, .int x3, .int x4, .int x5, .int x6, .int (x7 + 1), vU], [], (zS I J tg))) rfl ?_
        exact h
      · rw [if_neg c6] at h
        refine Runs.brF (P := ((x1 >>> (x7 &&& 31)) &&& 1) = 0) (a := 76) (b := 79) (L := [.ref 93, .int x1, .int x2, .int x3, .int x4, .int x5, .int x6, .int x7, vU]) (S := []) (z := (zS I J tg)) rfl c6 ?_
        refine Runs.sN 3 (c' := (84, [.ref 93, .int x1, .int x2, .int x3, .int x4, .int x5, .int x6, .int x7, vU], [.int x7, .int x6, .ref 93], (zS I J tg))) rfl ?_
        obtain ⟨v1, I2, J3, c7, h⟩ := h
        refine Runs.cl (cm := 197) (as := [.ref 93, .int x6, .int x7]) (rest := []) (r1 := ((some (.int v1)), (zS I2 J3 tg))) rfl (Nat.le_of_ble_eq_true rfl) c7 ?_
        refine Runs.as (c' := (87, [.ref 93, .int x1, .int x2, .int x3, .int x4, .int x5, .int x6, .int x7, vU], [.int v1], (zS I2 J3 tg))) rfl ?_
        refine Runs.sN 2 (c' := (90, [.ref 93, .int x1, .int x2, .int x3, .int x4, .int x5, .int x6, .int x7, .int v1], [.int x3], (zS I2 J3 tg))) rfl ?_
        by_cases c8 : x3 < 0
        · rw [if_pos c8] at h
          refine Runs.brT (P := x3 < 0) (a := 103) (b := 93) (L := [.ref 93, .int x1, .int x2, .int x3, .int x4, .int x5, .int x6, .int x7, .int v1]) (S := []) (z := (zS I2 J3 tg)) rfl c8 ?_
          refine Runs.sN 8 (c' := (51, [.ref 93, .int x1, .int x2, .int x6, .int x7, .int v1, .int x6, .int (x7 + 1), .int v1], [], (zS I2 J3 tg))) rfl ?_
          exact Runs.weak (L := [.ref 93, .int x1, .int x2, .int x6, .int x7, .int v1, .int x6, .int (x7 + 1), vU]) (Lle.k (Lle.k (Lle.k (Lle.k (Lle.k (Lle.k (Lle.k (Lle.k (Lle.u Lle.n))))))))) h
        · rw [if_neg c8] at h
          refine Runs.brF (P := x3 < 0) (a := 103) (b := 93) (L := [.ref 93, .int x1, .int x2, .int x3, .int x4, .int x5, .int x6, .int x7, .int v1]) (S := []) (z := (zS I2 J3 tg)) rfl c8 ?_
          refine Runs.sN 2 (c' := (97, [.ref 93, .int x1, .int x2, .int x3, .int x4, .int x5, .int x6, .int x7, .int v1], [.int x5, .int v1], (zS I2 J3 tg))) rfl ?_
          by_cases c9 : v1 < x5
          · rw [if_pos c9] at h
            refine Runs.brT (P := v1 < x5) (a := 103) (b := 100) (L := [.ref 93, .int x1, .int x2, .int x3, .int x4, .int x5, .int x6, .int x7, .int v1]) (S := []) (z := (zS I2 J3 tg)) rfl c9 ?_
            refine Runs.sN 8 (c' := (51, [.ref 93, .int x1, .int x2, .int x6, .int x7, .int v1, .int x6, .int (x7 + 1), .int v1], [], (zS I2 J3 tg))) rfl ?_
            exact Runs.weak (L := [.ref 93, .int x1, .int x2, .int x6, .int x7, .int v1, .int x6, .int (x7 + 1), vU]) (Lle.k (Lle.k (Lle.k (Lle.k (Lle.k (Lle.k (Lle.k (Lle.k (Lle.u Lle.n))))))))) h
          · rw [if_neg c9] at h
            refine Runs.brF (P := v1 < x5) (a := 103) (b := 100) (L := [.ref 93, .int x1, .int x2, .int x3, .int x4, .int x5, .int x6, .int x7, .int v1]) (S := []) (z := (zS I2 J3 tg)) rfl c9 ?_
            refine Runs.sN 3 (c' := (51, [.ref 93, .int x1, .int x2, .int x3, .int x4, .int x5, .int x6, .int (x7 + 1), .int v1], [], (zS I2 J3 tg))) rfl ?_
            exact Runs.weak (L := [.ref 93, .int x1, .int x2, .int x3, .int x4, .int x5, .int x6, .int (x7 + 1), vU]) (Lle.k (Lle.k (Lle.k (Lle.k (Lle.k (Lle.k (Lle.k (Lle.k (Lle.u Lle.n))))))))) h
-- X12_candidate 
theorem sg_262 {L d : Nat} {xs : Nat → Int32} (I : Nat → Nat → Int32) (J : Nat → Nat → Int64) (tg : Option Nat) (a1 : Int32) (a2 : Int32) {r : Option Value × SS} (h : (∃ (v13 : Int32) (I14 : Nat → Nat → Int32) (J15 : Nat → Nat → Int64), Runs (GW L xs) d 182 (0, [.int a1], [], (zS I J tg)) ((some (.int v13)), (zS I14 J15 tg)) ∧ (if v13 = 0 then (r = (some (.int (-1)), (zS I14 J15 tg))) else (∃ (v16 : Int32) (I17 : Nat → Nat → Int32) (J18 : Nat → Nat → Int64), Runs (GW L xs) d 179 (0, [.ref 93, .int a2], [], (zS I14 J15 tg)) ((some (.int v16)), (zS I17 J18 tg)) ∧ (if v16 = 0 then (r = (some (.int (-1)), (zS I17 J18 tg))) else (¬ ((840 + a1) < 0 ∨ 1200 ≤ (840 + a1).toNatClampNeg) ∧ (if (I17 94 ((840 + a1).toNatClampNeg)) = 4 then (r = (some (.int (-1)), (zS I17 J18 tg))) else (Runs (GW L xs) (d + 1) 262 (33, [.ref 93, .int a1, .int a2, .int 0], [], (zS I17 J18 tg)) r)))))))) : Runs (GW L xs) (d + 1) 262 (0, [.ref 93, .int a1, .int a2, vU], [], (zS I J tg)) r := by
  refine Runs.sN 1 (c' := (1, [.ref 93, .int a1, .int a2, vU], [.int a1], (zS I J tg))) rfl ?_
  obtain ⟨v13, I14, J15, c19, h⟩ := h
  refine Runs.cl (cm := 182) (as := [.int a1]) (rest := []) (r1 := ((some (.int v13)), (zS I14 J15 tg))) rfl (Nat.le_of_ble_eq_true rfl) c19 ?_
  refine Runs.as (c' := (4, [.ref 93, .int a1, .int a2, vU], [.int v13], (zS I14 J15 tg))) rfl ?_
  by_cases c20 : v13 = 0
  · rw [if_pos c20] at h
    refine Runs.brT (P := v13 = 0) (a := 29) (b := 7) (L := [.ref 93, .int a1, .int a2, vU]) (S := []) (z := (zS I14 J15 tg)) rfl c20 ?_
    refine Runs.sN 1 (c' := (30, [.ref 93, .int a1, .int a2, vU], [.int (-1)], (zS I14 J15 tg))) rfl ?_
    subst h
    exact Runs.rt rfl
  · rw [if_neg c20] at h
    refine Runs.brF (P := v13 = 0) (a := 29) (b := 7) (L := [.ref 93, .int a1, .int a2, vU]) (S := []) (z := (zS I14 J15 tg)) rfl c20 ?_
    refine Runs.sN 2 (c' := (9, [.ref 93, .int a1, .int a2, vU], [.int a2, .ref 93], (zS I14 J15 tg))) rfl ?_
    obtain ⟨v16, I17, J18, c21, h⟩ := h
    refine Runs.cl (cm := 179) (as := [.ref 93, .int a2]) (rest := []) (r1 := ((some (.int v16)), (zS I17 J18 tg))) rfl (Nat.le_of_ble_eq_true rfl) c21 ?_
    refine Runs.as (c' := (12, [.ref 93, .int a1, .int a2, vU], [.int v16], (zS I17 J18 tg))) rfl ?_
    by_cases c22 : v16 = 0
    · rw [if_pos c22] at h
      refine Runs.brT (P := v16 = 0) (a := 29) (b := 15) (L := [.ref 93, .int a1, .int a2, vU]) (S := []) (z := (zS I17 J18 tg)) rfl c22 ?_
      refine Runs.sN 1 (c' := (30, [.ref 93, .int a1, .int a2, vU], [.int (-1)], (zS I17 J18 tg))) rfl ?_
      subst h
      exact Runs.rt rfl
    · rw [if_neg c22] at h
      refine Runs.brF (P := v16 = 0) (a := 29) (b := 15) (L := [.ref 93, .int a1, .int a2, vU]) (S := []) (z := (zS I17 J18 tg)) rfl c22 ?_
      refine Runs.sN 5 (c' := (24, [.ref 93, .int a1, .int a2, vU], [.int (840 + a1), .ref 94], (zS I17 J18 tg))) rfl ?_
      obtain ⟨c23, h⟩ := h
      refine Runs.to (c' := (25, [.ref 93, .int a1, .int a2, vU], [.int (I17 94 ((840 + a1).toNatClampNeg))], (zS I17 J18 tg))) (Runs.ild rfl (show (94 : Nat) < 114 by decide) rfl c23) ?_
      refine Runs.sN 1 (c' := (26, [.ref 93, .int a1, .int a2, vU], [.int 4, .int (I17 94 ((840 + a1).toNatClampNeg))], (zS I17 J18 tg))) rfl ?_
      by_cases c24 : (I17 94 ((840 + a1).toNatClampNeg)) = 4
      · rw [if_pos c24] at h
        refine Runs.brT (P := (I17 94 ((840 + a1).toNatClampNeg)) = 4) (a := 29) (b := 31) (L := [.ref 93, .int a1, .int a2, vU]) (S := []) (z := (zS I17 J18 tg)) rfl c24 ?_
        refine Runs.sN 1 (c' := (30, [.ref 93, .int a1, .int a2, vU], [.int (-1)], (zS I17 J18 tg))) rfl ?_
        subst h
        exact Runs.rt rfl
      · rw [if_neg c24] at h
        refine Runs.brF (P := (I17 94 ((840 + a1).toNatClampNeg)) = 4) (a := 29) (b := 31) (L := [.ref 93, .int a1, .int a2, vU]) (S := []) (z := (zS I17 J18 tg)) rfl c24 ?_
        refine Runs.sN 2 (c' := (33, [.ref 93, .int a1, .int a2, .int 0], [], (zS I17 J18 tg))) rfl ?_
        exact h
theorem sg_262_33 {L d : Nat} {xs : Nat → Int32} (I : Nat → Nat → Int32) (J : Nat → Nat → Int64) (tg : Option Nat) (x1 : Int32) (x2 : Int32) (x3 : Int32) {r : Option Value × SS} (h : (¬ ((840 + x1) < 0 ∨ 1200 ≤ (840 + x1).toNatClampNeg) ∧ (if (I 94 ((840 + x1).toNatClampNeg)) ≤ x3 then (¬ ((840 + x1) < 0 ∨ 1200 ≤ (840 + x1).toNatClampNeg) ∧ ¬ (((850 + (4 * x1)) + (I 94 ((840 + x1).toNatClampNeg))) < 0 ∨ 1200 ≤ ((850 + (4 * x1)) + (I 94 ((840 + x1).toNatClampNeg))).toNatClampNeg) ∧ ¬ ((840 + x1) < 0 ∨ 1200 ≤ (840 + x1).toNatClampNeg) ∧ ¬ ((840 + x1) < 0 ∨ 1200 ≤ (840 + x1).toNatClampNeg) ∧ ¬ ((840 + x1) < 0 ∨ 1200 ≤ (840 + x1).toNatClampNeg) ∧ r = (some (.int ((up2 (up2 I 94 (((850 + (4 * x1)) + (I 94 ((840 + x1).toNatClampNeg))).toNatClampNeg) x2) 94 ((840 + x1).toNatClampNeg) (((up2 I 94 (((850 + (4 * x1)) + (I 94 ((840 + x1).toNatClampNeg))).toNatClampNeg) x2) 94 ((840 + x1).toNatClampNeg)) + 1)) 94 ((840 + x1).toNatClampNeg))), (zS (up2 (up2 I 94 (((850 + (4 * x1)) + (I 94 ((840 + x1).toNatClampNeg))).toNatClampNeg) x2) 94 ((840 + x1).toNatClampNeg) (((up2 I 94 (((850 + (4 * x1)) + (I 94 ((840 + x1).toNatClampNeg))).toNatClampNeg) x2) 94 ((840 + x1).toNatClampNeg)) + 1)) J tg))) else (¬ (((850 + (4 * x1)) + x3) < 0 ∨ 1200 ≤ ((850 + (4 * x1)) + x3).toNatClampNeg) ∧ (if (I 94 (((850 + (4 * x1)) + x3).toNatClampNeg)) = x2 then (r = (some (.int (-1)), (zS I J tg))) else (Runs (GW L xs) (d + 1) 262 (33, [.ref 93, .int x1, .int x2, .int (x3 + 1)], [], (zS I J tg)) r)))))) : Runs (GW L xs) (d + 1) 262 (33, [.ref 93, .int x1, .int x2, .int x3], [], (zS I J tg)) r := by
  refine Runs.sN 6 (c' := (43, [.ref 93, .int x1, .int x2, .int x3], [.int (840 + x1), .ref 94, .int x3], (zS I J tg))) rfl ?_
  obtain ⟨c1, h⟩ := h
  refine Runs.to (c' := (44, [.ref 93, .int x1, .int x2, .int x3], [.int (I 94 ((840 + x1).toNatClampNeg)), .int x3], (zS I J tg))) (Runs.ild rfl (show (94 : Nat) < 114 by decide) rfl c1) ?_
  by_cases c2 : (I 94 ((840 + x1).toNatClampNeg)) ≤ x3
  · rw [if_pos c2] at h
    refine Runs.brT (P := (I 94 ((840 + x1).toNatClampNeg)) ≤ x3) (a := 73) (b := 47) (L := [.ref 93, .int x1, .int x2, .int x3]) (S := []) (z := (zS I J tg)) rfl c2 ?_
    refine Runs.sN 12 (c' := (93, [.ref 93, .int x1, .int x2, .int x3], [.int (840 + x1), .ref 94, .int (850 + (4 * x1)), .ref 94], (zS I J tg))) rfl ?_
    obtain ⟨c3, h⟩ := h
    refine Runs.to (c' := (94, [.ref 93, .int x1, .int x2, .int x3], [.int (I 94 ((840 + x1).toNatClampNeg)), .int (850 + (4 * x1)), .ref 94], (zS I J tg))) (Runs.ild rfl (show (94 : Nat) < 114 by decide) rfl c3) ?_
    refine Runs.sN 2 (c' := (96, [.ref 93, .int x1, .int x2, .int x3], [.int x2, .int ((850 + (4 * x1)) + (I 94 ((840 + x1).toNatClampNeg))), .ref 94], (zS I J tg))) rfl ?_
    obtain ⟨c4, h⟩ := h
    refine Runs.to (c' := (97, [.ref 93, .int x1, .int x2, .int x3], [], (zS (up2 I 94 (((850 + (4 * x1)) + (I 94 ((840 + x1).toNatClampNeg))).toNatClampNeg) x2) J tg))) (Runs.ist rfl (show (94 : Nat) < 114 by decide) rfl c4) ?_
    refine Runs.sN 6 (c' := (107, [.ref 93, .int x1, .int x2, .int x3], [.int (840 + x1), .ref 94, .int (840 + x1), .ref 94], (zS (up2 I 94 (((850 + (4 * x1)) + (I 94 ((840 + x1).toNatClampNeg))).toNatClampNeg) x2) J tg))) rfl ?_
    obtain ⟨c5, h⟩ := h
    refine Runs.to (c' := (108, [.ref 93, .int x1, .int x2, .int x3], [.int ((up2 I 94 (((850 + (4 * x1)) + (I 94 ((840 + x1).toNatClampNeg))).toNatClampNeg) x2) 94 ((840 + x1).toNatClampNeg)), .int (840 + x1), .ref 94], (zS (up2 I 94 (((850 + (4 * x1)) + (I 94 ((840 + x1).toNatClampNeg))).toNatClampNeg) x2) J tg))) (Runs.ild rfl (show (94 : Nat) < 114 by decide) rfl c5) ?_
    refine Runs.sN 2 (c' := (110, [.ref 93, .int x1, .int x2, .int x3], [.int (((up2 I 94 (((850 + (4 * x1)) + (I 94 ((840 + x1).toNatClampNeg))).toNatClampNeg) x2) 94 ((840 + x1).toNatClampNeg)) + 1), .int (840 + x1), .ref 94], (zS (up2 I 94 (((850 + (4 * x1)) + (I 94 ((840 + x1).toNatClampNeg))).toNatClampNeg) x2) J tg))) rfl ?_
    obtain ⟨c6, h⟩ := h
    refine Runs.to (c' := (111, [.ref 93, .int x1, .int x2, .int x3], [], (zS (up2 (up2 I 94 (((850 + (4 * x1)) + (I 94 ((840 + x1).toNatClampNeg))).toNatClampNeg) x2) 94 ((840 + x1).toNatClampNeg) (((up2 I 94 (((850 + (4 * x1)) + (I 94 ((840 + x1).toNatClampNeg))).toNatClampNeg) x2) 94 ((840 + x1).toNatClampNeg)) + 1)) J tg))) (Runs.ist rfl (show (94 : Nat) < 114 by decide) rfl c6) ?_
    refine Runs.sN 5 (c' := (120, [.ref 93, .int x1, .int x2, .int x3], [.int (840 + x1), .ref 94], (zS (up2 (up2 I 94 (((850 + (4 * x1)) + (I 94 ((840 + x1).toNatClampNeg))).toNatClampNeg) x2) 94 ((840 + x1).toNatClampNeg) (((up2 I 94 (((850 + (4 * x1)) + (I 94 ((840 + x1).toNatClampNeg))).toNatClampNeg) x2) 94 ((840 + x1).toNatClampNeg)) + 1)) J tg))) rfl ?_
    obtain ⟨c7, h⟩ := h
    refine Runs.to (c' := (121, [.ref 93, .int x1, .int x2, .int x3], [.int ((up2 (up2 I 94 (((850 + (4 * x1)) + (I 94 ((840 + x1).toNatClampNeg))).toNatClampNeg) x2) 94 ((840 + x1).toNatClampNeg) (((up2 I 94 (((850 + (4 * x1)) + (I 94 ((840 + x1).toNatClampNeg))).toNatClampNeg) x2) 94 ((840 + x1).toNatClampNeg)) + 1)) 94 ((840 + x1).toNatClampNeg))], (zS (up2 (up2 I 94 (((850 + (4 * x1)) + (I 94 ((840 + x1).toNatClampNeg))).toNatClampNeg) x2) 94 ((840 + x1).toNatClampNeg) (((up2 I 94 (((850 + (4 * x1)) + (I 94 ((840 + x1).toNatClampNeg))).toNatClampNeg) x2) 94 ((840 + x1).toNatClampNeg)) + 1)) J tg))) (Runs.ild rfl (show (94 : Nat) < 114 by decide) rfl c7) ?_
    subst h
    exact Runs.rt rfl
  · rw [if_neg c2] at h
    refine Runs.brF (P := (I 94 ((840 + x1).toNatClampNeg)) ≤ x3) (a := 73) (b := 47) (L := [.ref 93, .int x1, .int x2, .int x3]) (S := []) (z := (zS I J tg)) rfl c2 ?_
    refine Runs.sN 9 (c' := (60, [.ref 93, .int x1, .int x2, .int x3], [.int ((850 + (4 * x1)) + x3), .ref 94], (zS I J tg))) rfl ?_
    obtain ⟨c8, h⟩ := h
    refine Runs.to (c' := (61, [.ref 93, .int x1, .int x2, .int x3], [.int (I 94 (((850 + (4 * x1)) + x3).toNatClampNeg))], (zS I J tg))) (Runs.ild rfl (show (94 : Nat) < 114 by decide) rfl c8) ?_
    refine Runs.sN 1 (c' := (62, [.ref 93, .int x1, .int x2, .int x3], [.int x2, .int (I 94 (((850 + (4 * x1)) + x3).toNatClampNeg))], (zS I J tg))) rfl ?_
    by_cases c9 : (I 94 (((850 + (4 * x1)) + x3).toNatClampNeg)) = x2
    · rw [if_pos c9] at h
      refine Runs.brT (P := (I 94 (((850 + (4 * x1)) + x3).toNatClampNeg)) = x2) (a := 65) (b := 67) (L := [.ref 93, .int x1, .int x2, .int x3]) (S := []) (z := (zS I J tg)) rfl c9 ?_
      refine Runs.sN 1 (c' := (66, [.ref 93, .int x1, .int x2, .int x3], [.int (-1)], (zS I J tg))) rfl ?_
      subst h
      exact Runs.rt rfl
    · rw [if_neg c9] at h
      refine Runs.brF (P := (I 94 (((850 + (4 * x1)) + x3).toNatClampNeg)) = x2) (a := 65) (b := 67) (L := [.ref 93, .int x1, .int x2, .int x3]) (S := []) (z := (zS I J tg)) rfl c9 ?_
      refine Runs.sN 2 (c' := (33, [.ref 93, .int x1, .int x2, .int (x3 + 1)], [], (zS I J tg))) rfl ?_
      exact h
-- X12_slots 
theorem sg_263 {L d : Nat} {xs : Nat → Int32} (I : Nat → Nat → Int32) (J : Nat → Nat → Int64) (tg : Option Nat) (a1 : Int32) {r : Option Value × SS} (h : (Runs (GW L xs) d 263 (4, [.ref 93, .int a1, .int 0, .int 0], [], (zS I J tg)) r)) : Runs (GW L xs) d 263 (0, [.ref 93, .int a1, vU, vU], [], (zS I J tg)) r := by
  refine Runs.sN 4 (c' := (4, [.ref 93, .int a1, .int 0, .int 0], [], (zS I J tg))) rfl ?_
  exact h
theorem sg_263_4 {L d : Nat} {xs : Nat → Int32} (I : Nat → Nat → Int32) (J : Nat → Nat → Int64) (tg : Option Nat) (x1 : Int32) (x2 : Int32) (x3 : Int32) {r : Option Value × SS} (h : ((if x1 < x3 then (r = (some (.int x2), (zS I J tg))) else (¬ ((840 + x3) < 0 ∨ 1200 ≤ (840 + x3).toNatClampNeg) ∧ (if (I 94 ((840 + x3).toNatClampNeg)) ≤ 0 then (Runs (GW L xs) d 263 (4, [.ref 93, .int x1, .int (x2 + 0), .int (x3 + 1)], [], (zS I J tg)) r) else (Runs (GW L xs) d 263 (4, [.ref 93, .int x1, .int (x2 + 1), .int (x3 + 1)], [], (zS I J tg)) r)))))) : Runs (GW L xs) d 263 (4, [.ref 93, .int x1, .int x2, .int x3], [], (zS I J tg)) r := by
  refine Runs.sN 2 (c' := (6, [.ref 93, .int x1, .int x2, .int x3], [.int x1, .int x3], (zS I J tg))) rfl ?_
  by_cases c1 : x1 < x3
  · rw [if_pos c1] at h
    refine Runs.brT (P := x1 < x3) (a := 36) (b := 9) (L := [.ref 93, .int x1, .int x2, .int x3]) (S := []) (z := (zS I J tg)) rfl c1 ?_
    refine Runs.sN 1 (c' := (37, [.ref 93, .int x1, .int x2, .int x3], [.int x2], (zS I J tg))) rfl ?_
    subst h
    exact Runs.rt rfl
  · rw [if_neg c1] at h
    refine Runs.brF (P := x1 < x3) (a := 36) (b := 9) (L := [.ref 93, .int x1, .int x2, .int x3]) (S := []) (z := (zS I J tg)) rfl c1 ?_
    refine Runs.sN 6 (c' := (19, [.ref 93, .int x1, .int x2, .int x3], [.int (840 + x3), .ref 94, .int x2], (zS I J tg))) rfl ?_
    obtain ⟨c2, h⟩ := h
    refine Runs.to (c' := (20, [.ref 93, .int x1, .int x2, .int x3], [.int (I 94 ((840 + x3).toNatClampNeg)), .int x2], (zS I J tg))) (Runs.ild rfl (show (94 : Nat) < 114 by decide) rfl c2) ?_
    by_cases c3 : (I 94 ((840 + x3).toNatClampNeg)) ≤ 0
    · rw [if_pos c3] at h
      refine Runs.brT (P := (I 94 ((840 + x3).toNatClampNeg)) ≤ 0) (a := 27) (b := 23) (L := [.ref 93, .int x1, .int x2, .int x3]) (S := [.int x2]) (z := (zS I J tg)) rfl c3 ?_
      refine Runs.sN 5 (c' := (4, [.ref 93, .int x1, .int (x2 + 0), .int (x3 + 1)], [], (zS I J tg))) rfl ?_
      exact h
    · rw [if_neg c3] at h
      refine Runs.brF (P := (I 94 ((840 + x3).toNatClampNeg)) ≤ 0) (a := 27) (b := 23) (L := [.ref 93, .int x1, .int x2, .int x3]) (S := [.int x2]) (z := (zS I J tg)) rfl c3 ?_
      refine Runs.sN 6 (c' := (4, [.ref 93, .int x1, .int (x2 + 1), .int (x3 + 1)], [], (zS I J tg))) rfl ?_
      exact h
-- X12_drawingOf 
theorem sg_264 {L d : Nat} {xs : Nat → Int32} (I : Nat → Nat → Int32) (J : Nat → Nat → Int64) (tg : Option Nat) (a1 : Int32) {r : Option Value × SS} (h : (¬ (a1 < 0 ∨ 6 ≤ (a1).toNatClampNeg) ∧ ¬ (((850 + (4 * a1)) + (I 106 ((a1).toNatClampNeg))) < 0 ∨ 1200 ≤ ((850 + (4 * a1)) + (I 106 ((a1).toNatClampNeg))).toNatClampNeg) ∧ r = (some (.int (I 94 (((850 + (4 * a1)) + (I 106 ((a1).toNatClampNeg))).toNatClampNeg))), (zS I J tg)))) : Runs (GW L xs) d 264 (0, [.ref 93, .int a1], [], (zS I J tg)) r := by
  refine Runs.sN 10 (c' := (16, [.ref 93, .int a1], [.int a1, .ref 106, .int (850 + (4 * a1)), .ref 94], (zS I J tg))) rfl ?_
  obtain ⟨c1, h⟩ := h
  refine Runs.to (c' := (17, [.ref 93, .int a1], [.int (I 106 ((a1).toNatClampNeg)), .int (850 + (4 * a1)), .ref 94], (zS I J tg))) (Runs.ild rfl (show (106 : Nat) < 114 by decide) rfl c1) ?_
  refine Runs.sN 1 (c' := (18, [.ref 93, .int a1], [.int ((850 + (4 * a1)) + (I 106 ((a1).toNatClampNeg))), .ref 94], (zS I J tg))) rfl ?_
  obtain ⟨c2, h⟩ := h
  refine Runs.to (c' := (19, [.ref 93, .int a1], [.int (I 94 (((850 + (4 * a1)) + (I 106 ((a1).toNatClampNeg))).toNatClampNeg))], (zS I J tg))) (Runs.ild rfl (show (94 : Nat) < 114 by decide) rfl c2) ?_
  subst h
  exact Runs.rt rfl
-- X12_nextChoice 
theorem sg_265 {L d : Nat} {xs : Nat → Int32} (I : Nat → Nat → Int32) (J : Nat → Nat → Int64) (tg : Option Nat) (a1 : Int32) {r : Option Value × SS} (h : (Runs (GW L xs) d 265 (2, [.ref 93, .int a1, .int a1], [], (zS I J tg)) r)) : Runs (GW L xs) d 265 (0, [.ref 93, .int a1, vU], [], (zS I J tg)) r := by
  refine Runs.sN 2 (c' := (2, [.ref 93, .int a1, .int a1], [], (zS I J tg))) rfl ?_
  exact h
theorem sg_265_2 {L d : Nat} {xs : Nat → Int32} (I : Nat → Nat → Int32) (J : Nat → Nat → Int64) (tg : Option Nat) (x1 : Int32) (x2 : Int32) {r : Option Value × SS} (h : ((if x2 < 0 then (r = (some (.int 0), (zS I J tg))) else (¬ ((840 + x2) < 0 ∨ 1200 ≤ (840 + x2).toNatClampNeg) ∧ (if (I 94 ((840 + x2).toNatClampNeg)) = 0 then (Runs (GW L xs) d 265 (2, [.ref 93, .int x1, .int (x2 + (-1))], [], (zS I J tg)) r) else (¬ (x2 < 0 ∨ 6 ≤ (x2).toNatClampNeg) ∧ ¬ (x2 < 0 ∨ 6 ≤ (x2).toNatClampNeg) ∧ ¬ (x2 < 0 ∨ 6 ≤ (x2).toNatClampNeg) ∧ ¬ ((840 + x2) < 0 ∨ 1200 ≤ (840 + x2).toNatClampNeg) ∧ (if (I 94 ((840 + x2).toNatClampNeg)) ≤ ((up2 I 106 ((x2).toNatClampNeg) ((I 106 ((x2).toNatClampNeg)) + 1)) 106 ((x2).toNatClampNeg)) then (¬ (x2 < 0 ∨ 6 ≤ (x2).toNatClampNeg) ∧ Runs (GW L xs) d 265 (2, [.ref 93, .int x1, .int (x2 + (-1))], [], (zS (up2 (up2 I 106 ((x2).toNatClampNeg) ((I 106 ((x2).toNatClampNeg)) + 1)) 106 ((x2).toNatClampNeg) 0) J tg)) r) else (r = (some (.int 1), (zS (up2 I 106 ((x2).toNatClampNeg) ((I 106 ((x2).toNatClampNeg)) + 1)) J tg)))))))))) : Runs (GW L xs) d 265 (2, [.ref 93, .int x1, .int x2], [], (zS I J tg)) r := by
  refine Runs.sN 1 (c' := (3, [.ref 93, .int x1, .int x2], [.int x2], (zS I J tg))) rfl ?_
  by_cases c1 : x2 < 0
  · rw [if_pos c1] at h
    refine Runs.brT (P := x2 < 0) (a := 66) (b := 6) (L := [.ref 93, .int x1, .int x2]) (S := []) (z := (zS I J tg)) rfl c1 ?_
    refine Runs.sN 1 (c' := (67, [.ref 93, .int x1, .int x2], [.int 0], (zS I J tg))) rfl ?_
    subst h
    exact Runs.rt rfl
  · rw [if_neg c1] at h
    refine Runs.brF (P := x2 < 0) (a := 66) (b := 6) (L := [.ref 93, .int x1, .int x2]) (S := []) (z := (zS I J tg)) rfl c1 ?_
    refine Runs.sN 5 (c' := (15, [.ref 93, .int x1, .int x2], [.int (840 + x2), .ref 94], (zS I J tg))) rfl ?_
    obtain ⟨c2, h⟩ := h
    refine Runs.to (c' := (16, [.ref 93, .int x1, .int x2], [.int (I 94 ((840 + x2).toNatClampNeg))], (zS I J tg))) (Runs.ild rfl (show (94 : Nat) < 114 by decide) rfl c2) ?_
    by_cases c3 : (I 94 ((840 + x2).toNatClampNeg)) = 0
    · rw [if_pos c3] at h
      refine Runs.brT (P := (I 94 ((840 + x2).toNatClampNeg)) = 0) (a := 19) (b := 22) (L := [.ref 93, .int x1, .int x2]) (S := []) (z := (zS I J tg)) rfl c3 ?_
      refine Runs.sN 3 (c' := (2, [.ref 93, .int x1, .int (x2 + (-1))], [], (zS I J tg))) rfl ?_
      exact h
    · rw [if_neg c3] at h
      refine Runs.brF (P := (I 94 ((840 + x2).toNatClampNeg)) = 0) (a := 19) (b := 22) (L := [.ref 93, .int x1, .int x2]) (S := []) (z := (zS I J tg)) rfl c3 ?_
      refine Runs.sN 4 (c' := (28, [.ref 93, .int x1, .int x2], [.int x2, .ref 106, .int x2, .ref 106], (zS I J tg))) rfl ?_
      obtain ⟨c4, h⟩ := h
      refine Runs.to (c' := (29, [.ref 93, .int x1, .int x2], [.int (I 106 ((x2).toNatClampNeg)), .int x2, .ref 106], (zS I J tg))) (Runs.ild rfl (show (106 : Nat) < 114 by decide) rfl c4) ?_
      refine Runs.sN 2 (c' := (31, [.ref 93, .int x1, .int x2], [.int ((I 106 ((x2).toNatClampNeg)) + 1), .int x2, .ref 106], (zS I J tg))) rfl ?_
      obtain ⟨c5, h⟩ := h
      refine Runs.to (c' := (32, [.ref 93, .int x1, .int x2], [], (zS (up2 I 106 ((x2).toNatClampNeg) ((I 106 ((x2).toNatClampNeg)) + 1)) J tg))) (Runs.ist rfl (show (106 : Nat) < 114 by decide) rfl c5) ?_
      refine Runs.sN 3 (c' := (37, [.ref 93, .int x1, .int x2], [.int x2, .ref 106], (zS (up2 I 106 ((x2).toNatClampNeg) ((I 106 ((x2).toNatClampNeg)) + 1)) J tg))) rfl ?_
      obtain ⟨c6, h⟩ := h
      refine Runs.to (c' := (38, [.ref 93, .int x1, .int x2], [.int ((up2 I 106 ((x2).toNatClampNeg) ((I 106 ((x2).toNatClampNeg)) + 1)) 106 ((x2).toNatClampNeg))], (zS (up2 I 106 ((x2).toNatClampNeg) ((I 106 ((x2).toNatClampNeg)) + 1)) J tg))) (Runs.ild rfl (show (106 : Nat) < 114 by decide) rfl c6) ?_
      refine Runs.sN 5 (c' := (47, [.ref 93, .int x1, .int x2], [.int (840 + x2), .ref 94, .int ((up2 I 106 ((x2).toNatClampNeg) ((I 106 ((x2).toNatClampNeg)) + 1)) 106 ((x2).toNatClampNeg))], (zS (up2 I 106 ((x2).toNatClampNeg) ((I 106 ((x2).toNatClampNeg)) + 1)) J tg))) rfl ?_
      obtain ⟨c7, h⟩ := h
      refine Runs.to (c' := (48, [.ref 93, .int x1, .int x2], [.int (I 94 ((840 + x2).toNatClampNeg)), .int ((up2 I 106 ((x2).toNatClampNeg) ((I 106 ((x2).toNatClampNeg)) + 1)) 106 ((x2).toNatClampNeg))], (zS (up2 I 106 ((x2).toNatClampNeg) ((I 106 ((x2).toNatClampNeg)) + 1)) J tg))) (Runs.ild rfl (show (94 : Nat) < 114 by decide) rfl c7) ?_
      by_cases c8 : (I 94 ((840 + x2).toNatClampNeg)) ≤ ((up2 I 106 ((x2).toNatClampNeg) ((I 106 ((x2).toNatClampNeg)) + 1)) 106 ((x2).toNatClampNeg))
      · rw [if_pos c8] at h
        refine Runs.brT (P := (I 94 ((840 + x2).toNatClampNeg)) ≤ ((up2 I 106 ((x2).toNatClampNeg) ((I 106 ((x2).toNatClampNeg)) + 1)) 106 ((x2).toNatClampNeg))) (a := 53) (b := 51) (L := [.ref 93, .int x1, .int x2]) (S := []) (z := (zS (up2 I 106 ((x2).toNatClampNeg) ((I 106 ((x2).toNatClampNeg)) + 1)) J tg)) rfl c8 ?_
        refine Runs.sN 4 (c' := (59, [.ref 93, .int x1, .int x2], [.int 0, .int x2, .ref 106], (zS (up2 I 106 ((x2).toNatClampNeg) ((I 106 ((x2).toNatClampNeg)) + 1)) J tg))) rfl ?_
        obtain ⟨c9, h⟩ := h
        refine Runs.to (c' := (60, [.ref 93, .int x1, .int x2], [], (zS (up2 (up2 I 106 ((x2).toNatClampNeg) ((I 106 ((x2).toNatClampNeg)) + 1)) 106 ((x2).toNatClampNeg) 0) J tg))) (Runs.ist rfl (show (106 : Nat) < 114 by decide) rfl c9) ?_
        refine Runs.sN 2 (c' := (2, [.ref 93, .int x1, .int (x2 + (-1))], [], (zS (up2 (up2 I 106 ((x2).toNatClampNeg) ((I 106 ((x2).toNatClampNeg)) + 1)) 106 ((x2).toNatClampNeg) 0) J tg))) rfl ?_
        exact h
      · rw [if_neg c8] at h
        refine Runs.brF (P := (I 94 ((840 + x2).toNatClampNeg)) ≤ ((up2 I 106 ((x2).toNatClampNeg) ((I 106 ((x2).toNatClampNeg)) + 1)) 106 ((x2).toNatClampNeg))) (a := 53) (b := 51) (L := [.ref 93, .int x1, .int x2]) (S := []) (z := (zS (up2 I 106 ((x2).toNatClampNeg) ((I 106 ((x2).toNatClampNeg)) + 1)) J tg)) rfl c8 ?_
        refine Runs.sN 1 (c' := (52, [.ref 93, .int x1, .int x2], [.int 1], (zS (up2 I 106 ((x2).toNatClampNeg) ((I 106 ((x2).toNatClampNeg)) + 1)) J tg))) rfl ?_
        subst h
        exact Runs.rt rfl
-- X12_choose 
theorem sg_266 {L d : Nat} {xs : Nat → Int32} (I : Nat → Nat → Int32) (J : Nat → Nat → Int64) (tg : Option Nat) (a1 : Int32) {r : Option Value × SS} (h : (Runs (GW L xs) (d + 1) 266 (2, [.ref 93, .int a1, .int 0, vU, vU, vU], [], (zS I J tg)) r)) : Runs (GW L xs) (d + 1) 266 (0, [.ref 93, .int a1, vU, vU, vU, vU], [], (zS I J tg)) r := by
  refine Runs.sN 2 (c' := (2, [.ref 93, .int a1, .int 0, vU, vU, vU], [], (zS I J tg))) rfl ?_
  exact h
theorem sg_266_2 {L d : Nat} {xs : Nat → Int32} (I : Nat → Nat → Int32) (J : Nat → Nat → Int64) (tg : Option Nat) (x1 : Int32) (x2 : Int32) {r : Option Value × SS} (h : ((if (I 94 1) ≤ x2 then (Runs (GW L xs) (d + 1) 266 (55, [.ref 93, .int x1, .int 0, vU, vU, vU], [], (zS I J tg)) r) else (Runs (GW L xs) (d + 1) 266 (14, [.ref 93, .int x1, .int x2, .int 0, vU, vU], [], (zS I J tg)) r)))) : Runs (GW L xs) (d + 1) 266 (2, [.ref 93, .int x1, .int x2, vU, vU, vU], [], (zS I J tg)) r := by
  refine Runs.sN 5 (c' := (9, [.ref 93, .int x1, .int x2, vU, vU, vU], [.int (I 94 1), .int x2], (zS I J tg))) rfl ?_
  by_cases c1 : (I 94 1) ≤ x2
  · rw [if_pos c1] at h
    refine Runs.brT (P := (I 94 1) ≤ x2) (a := 53) (b := 12) (L := [.ref 93, .int x1, .int x2, vU, vU, vU]) (S := []) (z := (zS I J tg)) rfl c1 ?_
    refine Runs.sN 2 (c' := (55, [.ref 93, .int x1, .int 0, vU, vU, vU], [], (zS I J tg))) rfl ?_
    exact h
  · rw [if_neg c1] at h
    refine Runs.brF (P := (I 94 1) ≤ x2) (a := 53) (b := 12) (L := [.ref 93, .int x1, .int x2, vU, vU, vU]) (S := []) (z := (zS I J tg)) rfl c1 ?_
    refine Runs.sN 2 (c' := (14, [.ref 93, .int x1, .int x2, .int 0, vU, vU], [], (zS I J tg))) rfl ?_
    exact h
theorem sg_266_14 {L d : Nat} {xs : Nat → Int32} (I : Nat → Nat → Int32) (J : Nat → Nat → Int64) (tg : Option Nat) (x1 : Int32) (x2 : Int32) (x3 : Int32) {r : Option Value × SS} (h : ((if (I 94 1) ≤ x3 then (Runs (GW L xs) (d + 1) 266 (2, [.ref 93, .int x1, .int (x2 + 1), vU, vU, vU], [], (zS I J tg)) r) else (∃ (v1 : Int32) (I2 : Nat → Nat → Int32) (J3 : Nat → Nat → Int64), Runs (GW L xs) d 197 (0, [.ref 93, .int x2, .int x3, vU, vU, vU, vU, vU, vU, vU], [], (zS I J tg)) ((some (.int v1)), (zS I2 J3 tg)) ∧ ¬ (((12 * x2) + x3) < 0 ∨ 144 ≤ ((12 * x2) + x3).toNatClampNeg) ∧ Runs (GW L xs) (d + 1) 266 (14, [.ref 93, .int x1, .int x2, .int (x3 + 1), vU, vU], [], (zS (up2 I2 108 (((12 * x2) + x3).toNatClampNeg) v1) J3 tg)) r)))) : Runs (GW L xs) (d + 1) 266 (14, [.ref 93, .int x1, .int x2, .int x3, vU, vU], [], (zS I J tg)) r := by
  refine Runs.sN 5 (c' := (21, [.ref 93, .int x1, .int x2, .int x3, vU, vU], [.int (I 94 1), .int x3], (zS I J tg))) rfl ?_
  by_cases c4 : (I 94 1) ≤ x3
  · rw [if_pos c4] at h
    refine Runs.brT (P := (I 94 1) ≤ x3) (a := 47) (b := 24) (L := [.ref 93, .int x1, .int x2, .int x3, vU, vU]) (S := []) (z := (zS I J tg)) rfl c4 ?_
    refine Runs.sN 2 (c' := (2, [.ref 93, .int x1, .int (x2 + 1), .int x3, vU, vU], [], (zS I J tg))) rfl ?_
    exact Runs.weak (L := [.ref 93, .int x1, .int (x2 + 1), vU, vU, vU]) (Lle.k (Lle.k (Lle.k (Lle.u (Lle.k (Lle.k Lle.n)))))) h
  · rw [if_neg c4] at h
    refine Runs.brF (P := (I 94 1) ≤ x3) (a := 47) (b := 24) (L := [.ref 93, .int x1, .int x2, .int x3, vU, vU]) (S := []) (z := (zS I J tg)) rfl c4 ?_
    refine Runs.sN 10 (c' := (37, [.ref 93, .int x1, .int x2, .int x3, vU, vU], [.int x3, .int x2, .ref 93, .int ((12 * x2) + x3), .ref 108], (zS I J tg))) rfl ?_
    obtain ⟨v1, I2, J3, c5, h⟩ := h
    refine Runs.cl (cm := 197) (as := [.ref 93, .int x2, .int x3]) (rest := [.int ((12 * x2) + x3), .ref 108]) (r1 := ((some (.int v1)), (zS I2 J3 tg))) rfl (Nat.le_of_ble_eq_true rfl) c5 ?_
    refine Runs.as (c' := (40, [.ref 93, .int x1, .int x2, .int x3, vU, vU], [.int v1, .int ((12 * x2) + x3), .ref 108], (zS I2 J3 tg))) rfl ?_
    obtain ⟨c6, h⟩ := h
    refine Runs.to (c' := (41, [.ref 93, .int x1, .int x2, .int x3, vU, vU], [], (zS (up2 I2 108 (((12 * x2) + x3).toNatClampNeg) v1) J3 tg))) (Runs.ist rfl (show (108 : Nat) < 114 by decide) rfl c6) ?_
    refine Runs.sN 2 (c' := (14, [.ref 93, .int x1, .int x2, .int (x3 + 1), vU, vU], [], (zS (up2 I2 108 (((12 * x2) + x3).toNatClampNeg) v1) J3 tg))) rfl ?_
    exact h
theorem sg_266_55 {L d : Nat} {xs : Nat → Int32} (I : Nat → Nat → Int32) (J : Nat → Nat → Int64) (tg : Option Nat) (x1 : Int32) (x2 : Int32) {r : Option Value × SS} (h : ((if 6 ≤ x2 then (Runs (GW L xs) (d + 1) 266 (81, [.ref 93, .int x1, .int 1, vU, vU, vU], [], (zS (up2 I 93 32 (-1)) J tg)) r) else (¬ (x2 < 0 ∨ 6 ≤ (x2).toNatClampNeg) ∧ Runs (GW L xs) (d + 1) 266 (55, [.ref 93, .int x1, .int (x2 + 1), vU, vU, vU], [], (zS (up2 I 106 ((x2).toNatClampNeg) 0) J tg)) r)))) : Runs (GW L xs) (d + 1) 266 (55, [.ref 93, .int x1, .int x2, vU, vU, vU], [], (zS I J tg)) r := by
  refine Runs.sN 2 (c' := (58, [.ref 93, .int x1, .int x2, vU, vU, vU], [.int 6, .int x2], (zS I J tg))) rfl ?_
  by_cases c1 : 6 ≤ x2
  · rw [if_pos c1] at h
    refine Runs.brT (P := 6 ≤ x2) (a := 74) (b := 61) (L := [.ref 93, .int x1, .int x2, vU, vU, vU]) (S := []) (z := (zS I J tg)) rfl c1 ?_
    refine Runs.sN 5 (c' := (81, [.ref 93, .int x1, .int 1, vU, vU, vU], [], (zS (up2 I 93 32 (-1)) J tg))) rfl ?_
    exact h
  · rw [if_neg c1] at h
    refine Runs.brF (P := 6 ≤ x2) (a := 74) (b := 61) (L := [.ref 93, .int x1, .int x2, vU, vU, vU]) (S := []) (z := (zS I J tg)) rfl c1 ?_
    refine Runs.sN 4 (c' := (67, [.ref 93, .int x1, .int x2, vU, vU, vU], [.int 0, .int x2, .ref 106], (zS I J tg))) rfl ?_
    obtain ⟨c2, h⟩ := h
    refine Runs.to (c' := (68, [.ref 93, .int x1, .int x2, vU, vU, vU], [], (zS (up2 I 106 ((x2).toNatClampNeg) 0) J tg))) (Runs.ist rfl (show (106 : Nat) < 114 by decide) rfl c2) ?_
    refine Runs.sN 2 (c' := (55, [.ref 93, .int x1, .int (x2 + 1), vU, vU, vU], [], (zS (up2 I 106 ((x2).toNatClampNeg) 0) J tg))) rfl ?_
    exact h
theorem sg_266_81 {L d : Nat} {xs : Nat → Int32} (I : Nat → Nat → Int32) (J : Nat → Nat → Int64) (tg : Option Nat) (x1 : Int32) (x2 : Int32) {r : Option Value × SS} (h : ((if x2 = 0 then (r = (none, (zS I J tg))) else (Runs (GW L xs) (d + 1) 266 (91, [.ref 93, .int x1, .int x2, .int 1000000, .int 0, vU], [], (zS I J tg)) r)))) : Runs (GW L xs) (d + 1) 266 (81, [.ref 93, .int x1, .int x2, vU, vU, vU], [], (zS I J tg)) r := by
  refine Runs.sN 1 (c' := (82, [.ref 93, .int x1, .int x2, vU, vU, vU], [.int x2], (zS I J tg))) rfl ?_
  by_cases c1 : x2 = 0
  · rw [if_pos c1] at h
    refine Runs.brT (P := x2 = 0) (a := 265) (b := 85) (L := [.ref 93, .int x1, .int x2, vU, vU, vU]) (S := []) (z := (zS I J tg)) rfl c1 ?_
    subst h
    exact Runs.rt rfl
  · rw [if_neg c1] at h
    refine Runs.brF (P := x2 = 0) (a := 265) (b := 85) (L := [.ref 93, .int x1, .int x2, vU, vU, vU]) (S := []) (z := (zS I J tg)) rfl c1 ?_
    refine Runs.sN 4 (c' := (91, [.ref 93, .int x1, .int x2, .int 1000000, .int 0, vU], [], (zS I J tg))) rfl ?_
    exact h
theorem sg_266_91 {L d : Nat} {xs : Nat → Int32} (I : Nat → Nat → Int32) (J : Nat → Nat → Int64) (tg : Option Nat) (x1 : Int32) (x2 : Int32) (x3 : Int32) (x4 : Int32) {r : Option Value × SS} (h : ((if x1 < x4 then ((if x3 ≤ (I 93 32) then (∃ (v1 : Int32) (I2 : Nat → Nat → Int32) (J3 : Nat → Nat → Int64), Runs (GW L xs) d 265 (0, [.ref 93, .int x1, vU], [], (zS I J tg)) ((some (.int v1)), (zS I2 J3 tg)) ∧ Runs (GW L xs) (d + 1) 266 (81, [.ref 93, .int x1, .int v1, vU, vU, vU], [], (zS I2 J3 tg)) r) else (Runs (GW L xs) (d + 1) 266 (212, [.ref 93, .int x1, .int x2, .int x3, .int 0, vU], [], (zS (up2 I 93 32 x3) J tg)) r))) else (Runs (GW L xs) (d + 1) 266 (103, [.ref 93, .int x1, .int x2, .int x3, .int x4, .int (x4 + 1)], [], (zS I J tg)) r)))) : Runs (GW L xs) (d + 1) 266 (91, [.ref 93, .int x1, .int x2, .int x3, .int x4, vU], [], (zS I J tg)) r := by
  refine Runs.sN 2 (c' := (94, [.ref 93, .int x1, .int x2, .int x3, .int x4, vU], [.int x1, .int x4], (zS I J tg))) rfl ?_
  by_cases c4 : x1 < x4
  · rw [if_pos c4] at h
    refine Runs.brT (P := x1 < x4) (a := 196) (b := 97) (L := [.ref 93, .int x1, .int x2, .int x3, .int x4, vU]) (S := []) (z := (zS I J tg)) rfl c4 ?_
    refine Runs.sN 3 (c' := (201, [.ref 93, .int x1, .int x2, .int x3, .int x4, vU], [.int (I 93 32), .int x3], (zS I J tg))) rfl ?_
    by_cases c5 : x3 ≤ (I 93 32)
    · rw [if_pos c5] at h
      refine Runs.brT (P := x3 ≤ (I 93 32)) (a := 256) (b := 204) (L := [.ref 93, .int x1, .int x2, .int x3, .int x4, vU]) (S := []) (z := (zS I J tg)) rfl c5 ?_
      refine Runs.sN 2 (c' := (258, [.ref 93, .int x1, .int x2, .int x3, .int x4, vU], [.int x1, .ref 93], (zS I J tg))) rfl ?_
      obtain ⟨v1, I2, J3, c6, h⟩ := h
      refine Runs.cl (cm := 265) (as := [.ref 93, .int x1]) (rest := []) (r1 := ((some (.int v1)), (zS I2 J3 tg))) rfl (Nat.le_of_ble_eq_true rfl) c6 ?_
      refine Runs.as (c' := (261, [.ref 93, .int x1, .int x2, .int x3, .int x4, vU], [.int v1], (zS I2 J3 tg))) rfl ?_
      refine Runs.sN 2 (c' := (81, [.ref 93, .int x1, .int v1, .int x3, .int x4, vU], [], (zS I2 J3 tg))) rfl ?_
      exact Runs.weak (L := [.ref 93, .int x1, .int v1, vU, vU, vU]) (Lle.k (Lle.k (Lle.k (Lle.u (Lle.u (Lle.k Lle.n)))))) h
    · rw [if_neg c5] at h
      refine Runs.brF (P := x3 ≤ (I 93 32)) (a := 256) (b := 204) (L := [.ref 93, .int x1, .int x2, .int x3, .int x4, vU]) (S := []) (z := (zS I J tg)) rfl c5 ?_
      refine Runs.sN 5 (c' := (212, [.ref 93, .int x1, .int x2, .int x3, .int 0, vU], [], (zS (up2 I 93 32 x3) J tg))) rfl ?_
      exact h
  · rw [if_neg c4] at h
    refine Runs.brF (P := x1 < x4) (a := 196) (b := 97) (L := [.ref 93, .int x1, .int x2, .int x3, .int x4, vU]) (S := []) (z := (zS I J tg)) rfl c4 ?_
    refine Runs.sN 4 (c' := (103, [.ref 93, .int x1, .int x2, .int x3, .int x4, .int (x4 + 1)], [], (zS I J tg))) rfl ?_
    exact h
theorem sg_266_103 {L d : Nat} {xs : Nat → Int32} (I : Nat → Nat → Int32) (J : Nat → Nat → Int64) (tg : Option Nat) (x1 : Int32) (x2 : Int32) (x3 : Int32) (x4 : Int32) (x5 : Int32) {r : Option Value × SS} (h : ((if x1 < x5 then (Runs (GW L xs) (d + 1) 266 (91, [.ref 93, .int x1, .int x2, .int x3, .int (x4 + 1), vU], [], (zS I J tg)) r) else (¬ ((840 + x4) < 0 ∨ 1200 ≤ (840 + x4).toNatClampNeg) ∧ (if (I 94 ((840 + x4).toNatClampNeg)) ≤ 0 then (Runs (GW L xs) (d + 1) 266 (91, [.ref 93, .int x1, .int x2, .int x3, .int (x4 + 1), vU], [], (zS I J tg)) r) else (¬ ((840 + x5) < 0 ∨ 1200 ≤ (840 + x5).toNatClampNeg) ∧ (if (I 94 ((840 + x5).toNatClampNeg)) ≤ 0 then (Runs (GW L xs) (d + 1) 266 (103, [.ref 93, .int x1, .int x2, .int x3, .int x4, .int (x5 + 1)], [], (zS I J tg)) r) else (∃ (v1 : Int32) (I2 : Nat → Nat → Int32) (J3 : Nat → Nat → Int64), Runs (GW L xs) d 264 (0, [.ref 93, .int x4], [], (zS I J tg)) ((some (.int v1)), (zS I2 J3 tg)) ∧ ∃ (v4 : Int32) (I5 : Nat → Nat → Int32) (J6 : Nat → Nat → Int64), Runs (GW L xs) d 264 (0, [.ref 93, .int x5], [], (zS I2 J3 tg)) ((some (.int v4)), (zS I5 J6 tg)) ∧ ¬ (((12 * v1) + v4) < 0 ∨ 144 ≤ ((12 * v1) + v4).toNatClampNeg) ∧ (if x3 ≤ (I5 108 (((12 * v1) + v4).toNatClampNeg)) then (Runs (GW L xs) (d + 1) 266 (103, [.ref 93, .int x1, .int x2, .int x3, .int x4, .int (x5 + 1)], [], (zS I5 J6 tg)) r) else (∃ (v7 : Int32) (I8 : Nat → Nat → Int32) (J9 : Nat → Nat → Int64), Runs (GW L xs) d 264 (0, [.ref 93, .int x4], [], (zS I5 J6 tg)) ((some (.int v7)), (zS I8 J9 tg)) ∧ ∃ (v10 : Int32) (I11 : Nat → Nat → Int32) (J12 : Nat → Nat → Int64), Runs (GW L xs) d 264 (0, [.ref 93, .int x5], [], (zS I8 J9 tg)) ((some (.int v10)), (zS I11 J12 tg)) ∧ ¬ (((12 * v7) + v10) < 0 ∨ 144 ≤ ((12 * v7) + v10).toNatClampNeg) ∧ Runs (GW L xs) (d + 1) 266 (103, [.ref 93, .int x1, .int x2, .int (I11 108 (((12 * v7) + v10).toNatClampNeg)), .int x4, .int (x5 + 1)], [], (zS I11 J12 tg)) r)))))))))) : Runs (GW L xs) (d + 1) 266 (103, [.ref 93, .int x1, .int x2, .int x3, .int x4, .int x5], [], (zS I J tg)) r := by
  refine Runs.sN 2 (c' := (106, [.ref 93, .int x1, .int x2, .int x3, .int x4, .int x5], [.int x1, .int x5], (zS I J tg))) rfl ?_
  by_cases c13 : x1 < x5
  · rw [if_pos c13] at h
    refine Runs.brT (P := x1 < x5) (a := 190) (b := 109) (L := [.ref 93, .int x1, .int x2, .int x3, .int x4, .int x5]) (S := []) (z := (zS I J tg)) rfl c13 ?_
    refine Runs.sN 2 (c' := (91, [.ref 93, .int x1, .int x2, .int x3, .int (x4 + 1), .int x5], [], (zS I J tg))) rfl ?_
    exact Runs.weak (L := [.ref 93, .int x1, .int x2, .int x3, .int (x4 + 1), vU]) (Lle.k (Lle.k (Lle.k (Lle.k (Lle.k (Lle.u Lle.n)))))) h
  · rw [if_neg c13] at h
    refine Runs.brF (P := x1 < x5) (a := 190) (b := 109) (L := [.ref 93, .int x1, .int x2, .int x3, .int x4, .int x5]) (S := []) (z := (zS I J tg)) rfl c13 ?_
    refine Runs.sN 5 (c' := (119, [.ref 93, .int x1, .int x2, .int x3, .int x4, .int x5], [.int (840 + x4), .ref 94], (zS I J tg))) rfl ?_
    obtain ⟨c14, h⟩ := h
    refine Runs.to (c' := (120, [.ref 93, .int x1, .int x2, .int x3, .int x4, .int x5], [.int (I 94 ((840 + x4).toNatClampNeg))], (zS I J tg))) (Runs.ild rfl (show (94 : Nat) < 114 by decide) rfl c14) ?_
    by_cases c15 : (I 94 ((840 + x4).toNatClampNeg)) ≤ 0
    · rw [if_pos c15] at h
      refine Runs.brT (P := (I 94 ((840 + x4).toNatClampNeg)) ≤ 0) (a := 190) (b := 123) (L := [.ref 93, .int x1, .int x2, .int x3, .int x4, .int x5]) (S := []) (z := (zS I J tg)) rfl c15 ?_
      refine Runs.sN 2 (c' := (91, [.ref 93, .int x1, .int x2, .int x3, .int (x4 + 1), .int x5], [], (zS I J tg))) rfl ?_
      exact Runs.weak (L := [.ref 93, .int x1, .int x2, .int x3, .int (x4 + 1), vU]) (Lle.k (Lle.k (Lle.k (Lle.k (Lle.k (Lle.u Lle.n)))))) h
    · rw [if_neg c15] at h
      refine Runs.brF (P := (I 94 ((840 + x4).toNatClampNeg)) ≤ 0) (a := 190) (b := 123) (L := [.ref 93, .int x1, .int x2, .int x3, .int x4, .int x5]) (S := []) (z := (zS I J tg)) rfl c15 ?_
      refine Runs.sN 5 (c' := (133, [.ref 93, .int x1, .int x2, .int x3, .int x4, .int x5], [.int (840 + x5), .ref 94], (zS I J tg))) rfl ?_
      obtain ⟨c16, h⟩ := h
      refine Runs.to (c' := (134, [.ref 93, .int x1, .int x2, .int x3, .int x4, .int x5], [.int (I 94 ((840 + x5).toNatClampNeg))], (zS I J tg))) (Runs.ild rfl (show (94 : Nat) < 114 by decide) rfl c16) ?_
      by_cases c17 : (I 94 ((840 + x5).toNatClampNeg)) ≤ 0
      · rw [if_pos c17] at h
        refine Runs.brT (P := (I 94 ((840 + x5).toNatClampNeg)) ≤ 0) (a := 184) (b := 137) (L := [.ref 93, .int x1, .int x2, .int x3, .int x4, .int x5]) (S := []) (z := (zS I J tg)) rfl c17 ?_
        refine Runs.sN 2 (c' := (103, [.ref 93, .int x1, .int x2, .int x3, .int x4, .int (x5 + 1)], [], (zS I J tg))) rfl ?_
        exact h
      · rw [if_neg c17] at h
        refine Runs.brF (P := (I 94 ((840 + x5).toNatClampNeg)) ≤ 0) (a := 184) (b := 137) (L := [.ref 93, .int x1, .int x2, .int x3, .int x4, .int x5]) (S := []) (z := (zS I J tg)) rfl c17 ?_
        refine Runs.sN 5 (c' := (146, [.ref 93, .int x1, .int x2, .int x3, .int x4, .int x5], [.int x4, .ref 93, .int 12, .ref 108], (zS I J tg))) rfl ?_
        obtain ⟨v1, I2, J3, c18, h⟩ := h
        refine Runs.cl (cm := 264) (as := [.ref 93, .int x4]) (rest := [.int 12, .ref 108]) (r1 := ((some (.int v1)), (zS I2 J3 tg))) rfl (Nat.le_of_ble_eq_true rfl) c18 ?_
        refine Runs.as (c' := (149, [.ref 93, .int x1, .int x2, .int x3, .int x4, .int x5], [.int v1, .int 12, .ref 108], (zS I2 J3 tg))) rfl ?_
        refine Runs.sN 3 (c' := (153, [.ref 93, .int x1, .int x2, .int x3, .int x4, .int x5], [.int x5, .ref 93, .int (12 * v1), .ref 108], (zS I2 J3 tg))) rfl ?_
        obtain ⟨v4, I5, J6, c19, h⟩ := h
        refine Runs.cl (cm := 264) (as := [.ref 93, .int x5]) (rest := [.int (12 * v1), .ref 108]) (r1 := ((some (.int v4)), (zS I5 J6 tg))) rfl (Nat.le_of_ble_eq_true rfl) c19 ?_
        refine Runs.as (c' := (156, [.ref 93, .int x1, .int x2, .int x3, .int x4, .int x5], [.int v4, .int (12 * v1), .ref 108], (zS I5 J6 tg))) rfl ?_
        refine Runs.sN 1 (c' := (157, [.ref 93, .int x1, .int x2, .int x3, .int x4, .int x5], [.int ((12 * v1) + v4), .ref 108], (zS I5 J6 tg))) rfl ?_
        obtain ⟨c20, h⟩ := h
        refine Runs.to (c' := (158, [.ref 93, .int x1, .int x2, .int x3, .int x4, .int x5], [.int (I5 108 (((12 * v1) + v4).toNatClampNeg))], (zS I5 J6 tg))) (Runs.ild rfl (show (108 : Nat) < 114 by decide) rfl c20) ?_
        refine Runs.sN 1 (c' := (159, [.ref 93, .int x1, .int x2, .int x3, .int x4, .int x5], [.int x3, .int (I5 108 (((12 * v1) + v4).toNatClampNeg))], (zS I5 J6 tg))) rfl ?_
        by_cases c21 : x3 ≤ (I5 108 (((12 * v1) + v4).toNatClampNeg))
        · rw [if_pos c21] at h
          refine Runs.brT (P := x3 ≤ (I5 108 (((12 * v1) + v4).toNatClampNeg))) (a := 184) (b := 162) (L := [.ref 93, .int x1, .int x2, .int x3, .int x4, .int x5]) (S := []) (z := (zS I5 J6 tg)) rfl c21 ?_
          refine Runs.sN 2 (c' := (103, [.ref 93, .int x1, .int x2, .int x3, .int x4, .int (x5 + 1)], [], (zS I5 J6 tg))) rfl ?_
          exact h
        · rw [if_neg c21] at h
          refine Runs.brF (P := x3 ≤ (I5 108 (((12 * v1) + v4).toNatClampNeg))) (a := 184) (b := 162) (L := [.ref 93, .int x1, .int x2, .int x3, .int x4, .int x5]) (S := []) (z := (zS I5 J6 tg)) rfl c21 ?_
          refine Runs.sN 5 (c' := (171, [.ref 93, .int x1, .int x2, .int x3, .int x4, .int x5], [.int x4, .ref 93, .int 12, .ref 108], (zS I5 J6 tg))) rfl ?_
          obtain ⟨v7, I8, J9, c22, h⟩ := h
          refine Runs.cl (cm := 264) (as := [.ref 93, .int x4]) (rest := [.int 12, .ref 108]) (r1 := ((some (.int v7)), (zS I8 J9 tg))) rfl (Nat.le_of_ble_eq_true rfl) c22 ?_
          refine Runs.as (c' := (174, [.ref 93, .int x1, .int x2, .int x3, .int x4, .int x5], [.int v7, .int 12, .ref 108], (zS I8 J9 tg))) rfl ?_
          refine Runs.sN 3 (c' := (178, [.ref 93, .int x1, .int x2, .int x3, .int x4, .int x5], [.int x5, .ref 93, .int (12 * v7), .ref 108], (zS I8 J9 tg))) rfl ?_
          obtain ⟨v10, I11, J12, c23, h⟩ := h
          refine Runs.cl (cm := 264) (as := [.ref 93, .int x5]) (rest := [.int (12 * v7), .ref 108]) (r1 := ((some (.int v10)), (zS I11 J12 tg))) rfl (Nat.le_of_ble_eq_true rfl) c23 ?_
          refine Runs.as (c' := (181, [.ref 93, .int x1, .int x2, .int x3, .int x4, .int x5], [.int v10, .int (12 * v7), .ref 108], (zS I11 J12 tg))) rfl ?_
          refine Runs.sN 1 (c' := (182, [.ref 93, .int x1, .int x2, .int x3, .int x4, .int x5], [.int ((12 * v7) + v10), .ref 108], (zS I11 J12 tg))) rfl ?_
          obtain ⟨c24, h⟩ := h
          refine Runs.to (c' := (183, [.ref 93, .int x1, .int x2, .int x3, .int x4, .int x5], [.int (I11 108 (((12 * v7) + v10).toNatClampNeg))], (zS I11 J12 tg))) (Runs.ild rfl (show (108 : Nat) < 114 by decide) rfl c24) ?_
          refine Runs.sN 3 (c' := (103, [.ref 93, .int x1, .int x2, .int (I11 108 (((12 * v7) + v10).toNatClampNeg)), .int x4, .int (x5 + 1)], [], (zS I11 J12 tg))) rfl ?_
          exact h
theorem sg_266_212 {L d : Nat} {xs : Nat → Int32} (I : Nat → Nat → Int32) (J : Nat → Nat → Int64) (tg : Option Nat) (x1 : Int32) (x2 : Int32) (x3 : Int32) (x4 : Int32) {r : Option Value × SS} (h : ((if 6 ≤ x4 then (∃ (v1 : Int32) (I2 : Nat → Nat → Int32) (J3 : Nat → Nat → Int64), Runs (GW L xs) d 265 (0, [.ref 93, .int x1, vU], [], (zS I J tg)) ((some (.int v1)), (zS I2 J3 tg)) ∧ Runs (GW L xs) (d + 1) 266 (81, [.ref 93, .int x1, .int v1, vU, vU, vU], [], (zS I2 J3 tg)) r) else (¬ ((840 + x4) < 0 ∨ 1200 ≤ (840 + x4).toNatClampNeg) ∧ (if (I 94 ((840 + x4).toNatClampNeg)) ≤ 0 then (¬ (x4 < 0 ∨ 6 ≤ (x4).toNatClampNeg) ∧ Runs (GW L xs) (d + 1) 266 (212, [.ref 93, .int x1, .int x2, .int x3, .int (x4 + 1), vU], [], (zS (up2 I 107 ((x4).toNatClampNeg) (-1)) J tg)) r) else (∃ (v4 : Int32) (I5 : Nat → Nat → Int32) (J6 : Nat → Nat → Int64), Runs (GW L xs) d 264 (0, [.ref 93, .int x4], [], (zS I J tg)) ((some (.int v4)), (zS I5 J6 tg)) ∧ ¬ (x4 < 0 ∨ 6 ≤ (x4).toNatClampNeg) ∧ Runs (GW L xs) (d + 1) 266 (212, [.ref 93, .int x1, .int x2, .int x3, .int (x4 + 1), vU], [], (zS (up2 I5 107 ((x4).toNatClampNeg) v4) J6 tg)) r)))))) : Runs (GW L xs) (d + 1) 266 (212, [.ref 93, .int x1, .int x2, .int x3, .int x4, vU], [], (zS I J tg)) r := by
  refine Runs.sN 2 (c' := (216, [.ref 93, .int x1, .int x2, .int x3, .int x4, vU], [.int 6, .int x4], (zS I J tg))) rfl ?_
  by_cases c7 : 6 ≤ x4
  · rw [if_pos c7] at h
    refine Runs.brT (P := 6 ≤ x4) (a := 256) (b := 219) (L := [.ref 93, .int x1, .int x2, .int x3, .int x4, vU]) (S := []) (z := (zS I J tg)) rfl c7 ?_
    refine Runs.sN 2 (c' := (258, [.ref 93, .int x1, .int x2, .int x3, .int x4, vU], [.int x1, .ref 93], (zS I J tg))) rfl ?_
    obtain ⟨v1, I2, J3, c8, h⟩ := h
    refine Runs.cl (cm := 265) (as := [.ref 93, .int x1]) (rest := []) (r1 := ((some (.int v1)), (zS I2 J3 tg))) rfl (Nat.le_of_ble_eq_true rfl) c8 ?_
    refine Runs.as (c' := (261, [.ref 93, .int x1, .int x2, .int x3, .int x4, vU], [.int v1], (zS I2 J3 tg))) rfl ?_
    refine Runs.sN 2 (c' := (81, [.ref 93, .int x1, .int v1, .int x3, .int x4, vU], [], (zS I2 J3 tg))) rfl ?_
    exact Runs.weak (L := [.ref 93, .int x1, .int v1, vU, vU, vU]) (Lle.k (Lle.k (Lle.k (Lle.u (Lle.u (Lle.k Lle.n)))))) h
  · rw [if_neg c7] at h
    refine Runs.brF (P := 6 ≤ x4) (a := 256) (b := 219) (L := [.ref 93, .int x1, .int x2, .int x3, .int x4, vU]) (S := []) (z := (zS I J tg)) rfl c7 ?_
    refine Runs.sN 8 (c' := (235, [.ref 93, .int x1, .int x2, .int x3, .int x4, vU], [.int (840 + x4), .ref 94, .int x4, .ref 107], (zS I J tg))) rfl ?_
    obtain ⟨c9, h⟩ := h
    refine Runs.to (c' := (236, [.ref 93, .int x1, .int x2, .int x3, .int x4, vU], [.int (I 94 ((840 + x4).toNatClampNeg)), .int x4, .ref 107], (zS I J tg))) (Runs.ild rfl (show (94 : Nat) < 114 by decide) rfl c9) ?_
    by_cases c10 : (I 94 ((840 + x4).toNatClampNeg)) ≤ 0
    · rw [if_pos c10] at h
      refine Runs.brT (P := (I 94 ((840 + x4).toNatClampNeg)) ≤ 0) (a := 248) (b := 239) (L := [.ref 93, .int x1, .int x2, .int x3, .int x4, vU]) (S := [.int x4, .ref 107]) (z := (zS I J tg)) rfl c10 ?_
      refine Runs.sN 1 (c' := (249, [.ref 93, .int x1, .int x2, .int x3, .int x4, vU], [.int (-1), .int x4, .ref 107], (zS I J tg))) rfl ?_
      obtain ⟨c11, h⟩ := h
      refine Runs.to (c' := (250, [.ref 93, .int x1, .int x2, .int x3, .int x4, vU], [], (zS (up2 I 107 ((x4).toNatClampNeg) (-1)) J tg))) (Runs.ist rfl (show (107 : Nat) < 114 by decide) rfl c11) ?_
      refine Runs.sN 2 (c' := (212, [.ref 93, .int x1, .int x2, .int x3, .int (x4 + 1), vU], [], (zS (up2 I 107 ((x4).toNatClampNeg) (-1)) J tg))) rfl ?_
      exact h
    · rw [if_neg c10] at h
      refine Runs.brF (P := (I 94 ((840 + x4).toNatClampNeg)) ≤ 0) (a := 248) (b := 239) (L := [.ref 93, .int x1, .int x2, .int x3, .int x4, vU]) (S := [.int x4, .ref 107]) (z := (zS I J tg)) rfl c10 ?_
      refine Runs.sN 2 (c' := (242, [.ref 93, .int x1, .int x2, .int x3, .int x4, vU], [.int x4, .ref 93, .int x4, .ref 107], (zS I J tg))) rfl ?_
      obtain ⟨v4, I5, J6, c12, h⟩ := h
      refine Runs.cl (cm := 264) (as := [.ref 93, .int x4]) (rest := [.int x4, .ref 107]) (r1 := ((some (.int v4)), (zS I5 J6 tg))) rfl (Nat.le_of_ble_eq_true rfl) c12 ?_
      refine Runs.as (c' := (245, [.ref 93, .int x1, .int x2, .int x3, .int x4, vU], [.int v4, .int x4, .ref 107], (zS I5 J6 tg))) rfl ?_
      refine Runs.sN 1 (c' := (249, [.ref 93, .int x1, .int x2, .int x3, .int x4, vU], [.int v4, .int x4, .ref 107], (zS I5 J6 tg))) rfl ?_
      obtain ⟨c13, h⟩ := h
      refine Runs.to (c' := (250, [.ref 93, .int x1, .int x2, .int x3, .int x4, vU], [], (zS (up2 I5 107 ((x4).toNatClampNeg) v4) J6 tg))) (Runs.ist rfl (show (107 : Nat) < 114 by decide) rfl c13) ?_
      refine Runs.sN 2 (c' := (212, [.ref 93, .int x1, .int x2, .int x3, .int (x4 + 1), vU], [], (zS (up2 I5 107 ((x4).toNatClampNeg) v4) J6 tg))) rfl ?_
      exact h
-- X12_choice 
theorem sg_267 {L d : Nat} {xs : Nat → Int32} (I : Nat → Nat → Int32) (J : Nat → Nat → Int64) (tg : Option Nat) (a1 : Int32) {r : Option Value × SS} (h : ((if a1 = (-1) then (∃ (v14 : Int32) (I15 : Nat → Nat → Int32) (J16 : Nat → Nat → Int64), Runs (GW L xs) d 263 (0, [.ref 93, .int 5, vU, vU], [], (zS I J tg)) ((some (.int v14)), (zS I15 J16 tg)) ∧ (if 2 ≤ v14 then (∃ (I17 : Nat → Nat → Int32) (J18 : Nat → Nat → Int64), Runs (GW L xs) d 266 (0, [.ref 93, .int 5, vU, vU, vU, vU], [], (zS I15 J16 tg)) (none, (zS I17 J18 tg)) ∧ (if a1 = (-1) then (r = (some (.int (I17 93 32)), (zS I17 J18 tg))) else (¬ (a1 < 0 ∨ 6 ≤ (a1).toNatClampNeg) ∧ r = (some (.int (I17 107 ((a1).toNatClampNeg))), (zS I17 J18 tg))))) else (r = (some (.int (-1)), (zS I15 J16 tg))))) else (∃ (v19 : Int32) (I20 : Nat → Nat → Int32) (J21 : Nat → Nat → Int64), Runs (GW L xs) d 182 (0, [.int a1], [], (zS I J tg)) ((some (.int v19)), (zS I20 J21 tg)) ∧ (if v19 = 0 then (r = (some (.int (-1)), (zS I20 J21 tg))) else (¬ ((840 + a1) < 0 ∨ 1200 ≤ (840 + a1).toNatClampNeg) ∧ (if (I20 94 ((840 + a1).toNatClampNeg)) = 0 then (r = (some (.int (-1)), (zS I20 J21 tg))) else (∃ (v22 : Int32) (I23 : Nat → Nat → Int32) (J24 : Nat → Nat → Int64), Runs (GW L xs) d 263 (0, [.ref 93, .int 5, vU, vU], [], (zS I20 J21 tg)) ((some (.int v22)), (zS I23 J24 tg)) ∧ (if 2 ≤ v22 then (∃ (I25 : Nat → Nat → Int32) (J26 : Nat → Nat → Int64), Runs (GW L xs) d 266 (0, [.ref 93, .int 5, vU, vU, vU, vU], [], (zS I23 J24 tg)) (none, (zS I25 J26 tg)) ∧ (if a1 = (-1) then (r = (some (.int (I25 93 32)), (zS I25 J26 tg))) else (¬ (a1 < 0 ∨ 6 ≤ (a1).toNatClampNeg) ∧ r = (some (.int (I25 107 ((a1).toNatClampNeg))), (zS I25 J26 tg))))) else (r = (some (.int (-1)), (zS I23 J24 tg)))))))))))) : Runs (GW L xs) (d + 1) 267 (0, [.ref 93, .int a1], [], (zS I J tg)) r := by
  refine Runs.sN 2 (c' := (2, [.ref 93, .int a1], [.int (-1), .int a1], (zS I J tg))) rfl ?_
  by_cases c27 : a1 = (-1)
  · rw [if_pos c27] at h
    refine Runs.brT (P := a1 = (-1)) (a := 25) (b := 5) (L := [.ref 93, .int a1]) (S := []) (z := (zS I J tg)) rfl c27 ?_
    refine Runs.sN 2 (c' := (27, [.ref 93, .int a1], [.int 5, .ref 93], (zS I J tg))) rfl ?_
    obtain ⟨v14, I15, J16, c28, h⟩ := h
    refine Runs.cl (cm := 263) (as := [.ref 93, .int 5]) (rest := []) (r1 := ((some (.int v14)), (zS I15 J16 tg))) rfl (Nat.le_of_ble_eq_true rfl) c28 ?_
    refine Runs.as (c' := (30, [.ref 93, .int a1], [.int v14], (zS I15 J16 tg))) rfl ?_
    refine Runs.sN 1 (c' := (31, [.ref 93, .int a1], [.int 2, .int v14], (zS I15 J16 tg))) rfl ?_
    by_cases c29 : 2 ≤ v14
    · rw [if_pos c29] at h
      refine Runs.brT (P := 2 ≤ v14) (a := 36) (b := 34) (L := [.ref 93, .int a1]) (S := []) (z := (zS I15 J16 tg)) rfl c29 ?_
      refine Runs.sN 2 (c' := (38, [.ref 93, .int a1], [.int 5, .ref 93], (zS I15 J16 tg))) rfl ?_
      obtain ⟨I17, J18, c30, h⟩ := h
      refine Runs.cl (cm := 266) (as := [.ref 93, .int 5]) (rest := []) (r1 := (none, (zS I17 J18 tg))) rfl (Nat.le_of_ble_eq_true rfl) c30 ?_
      refine Runs.as (c' := (41, [.ref 93, .int a1], [], (zS I17 J18 tg))) rfl ?_
      refine Runs.sN 2 (c' := (43, [.ref 93, .int a1], [.int (-1), .int a1], (zS I17 J18 tg))) rfl ?_
      by_cases c31 : a1 = (-1)
      · rw [if_pos c31] at h
        refine Runs.brT (P := a1 = (-1)) (a := 46) (b := 53) (L := [.ref 93, .int a1]) (S := []) (z := (zS I17 J18 tg)) rfl c31 ?_
        refine Runs.sN 3 (c' := (59, [.ref 93, .int a1], [.int (I17 93 32)], (zS I17 J18 tg))) rfl ?_
        subst h
        exact Runs.rt rfl
      · rw [if_neg c31] at h
        refine Runs.brF (P := a1 = (-1)) (a := 46) (b := 53) (L := [.ref 93, .int a1]) (S := []) (z := (zS I17 J18 tg)) rfl c31 ?_
        refine Runs.sN 3 (c' := (58, [.ref 93, .int a1], [.int a1, .ref 107], (zS I17 J18 tg))) rfl ?_
        obtain ⟨c32, h⟩ := h
        refine Runs.to (c' := (59, [.ref 93, .int a1], [.int (I17 107 ((a1).toNatClampNeg))], (zS I17 J18 tg))) (Runs.ild rfl (show (107 : Nat) < 114 by decide) rfl c32) ?_
        subst h
        exact Runs.rt rfl
    · rw [if_neg c29] at h
      refine Runs.brF (P := 2 ≤ v14) (a := 36) (b := 34) (L := [.ref 93, .int a1]) (S := []) (z := (zS I15 J16 tg)) rfl c29 ?_
      refine Runs.sN 1 (c' := (35, [.ref 93, .int a1], [.int (-1)], (zS I15 J16 tg))) rfl ?_
      subst h
      exact Runs.rt rfl
  · rw [if_neg c27] at h
    refine Runs.brF (P := a1 = (-1)) (a := 25) (b := 5) (L := [.ref 93, .int a1]) (S := []) (z := (zS I J tg)) rfl c27 ?_
    refine Runs.sN 1 (c' := (6, [.ref 93, .int a1], [.int a1], (zS I J tg))) rfl ?_
    obtain ⟨v19, I20, J21, c33, h⟩ := h
    refine Runs.cl (cm := 182) (as := [.int a1]) (rest := []) (r1 := ((some (.int v19)), (zS I20 J21 tg))) rfl (Nat.le_of_ble_eq_true rfl) c33 ?_
    refine Runs.as (c' := (9, [.ref 93, .int a1], [.int v19], (zS I20 J21 tg))) rfl ?_
    by_cases c34 : v19 = 0
    · rw [if_pos c34] at h
      refine Runs.brT (P := v19 = 0) (a := 34) (b := 12) (L := [.ref 93, .int a1]) (S := []) (z := (zS I20 J21 tg)) rfl c34 ?_
      refine Runs.sN 1 (c' := (35, [.ref 93, .int a1], [.int (-1)], (zS I20 J21 tg))) rfl ?_
      subst h
      exact Runs.rt rfl
    · rw [if_neg c34] at h
      refine Runs.brF (P := v19 = 0) (a := 34) (b := 12) (L := [.ref 93, .int a1]) (S := []) (z := (zS I20 J21 tg)) rfl c34 ?_
      refine Runs.sN 5 (c' := (21, [.ref 93, .int a1], [.int (840 + a1), .ref 94], (zS I20 J21 tg))) rfl ?_
      obtain ⟨c35, h⟩ := h
      refine Runs.to (c' := (22, [.ref 93, .int a1], [.int (I20 94 ((840 + a1).toNatClampNeg))], (zS I20 J21 tg))) (Runs.ild rfl (show (94 : Nat) < 114 by decide) rfl c35) ?_
      by_cases c36 : (I20 94 ((840 + a1).toNatClampNeg)) = 0
      · rw [if_pos c36] at h
        refine Runs.brT (P := (I20 94 ((840 + a1).toNatClampNeg)) = 0) (a := 34) (b := 25) (L := [.ref 93, .int a1]) (S := []) (z := (zS I20 J21 tg)) rfl c36 ?_
        refine Runs.sN 1 (c' := (35, [.ref 93, .int a1], [.int (-1)], (zS I20 J21 tg))) rfl ?_
        subst h
        exact Runs.rt rfl
      · rw [if_neg c36] at h
        refine Runs.brF (P := (I20 94 ((840 + a1).toNatClampNeg)) = 0) (a := 34) (b := 25) (L := [.ref 93, .int a1]) (S := []) (z := (zS I20 J21 tg)) rfl c36 ?_
        refine Runs.sN 2 (c' := (27, [.ref 93, .int a1], [.int 5, .ref 93], (zS I20 J21 tg))) rfl ?_
        obtain ⟨v22, I23, J24, c37, h⟩ := h
        refine Runs.cl (cm := 263) (as := [.ref 93, .int 5]) (rest := []) (r1 := ((some (.int v22)), (zS I23 J24 tg))) rfl (Nat.le_of_ble_eq_true rfl) c37 ?_
        refine Runs.as (c' := (30, [.ref 93, .int a1], [.int v22], (zS I23 J24 tg))) rfl ?_
        refine Runs.sN 1 (c' := (31, [.ref 93, .int a1], [.int 2, .int v22], (zS I23 J24 tg))) rfl ?_
        by_cases c38 : 2 ≤ v22
        · rw [if_pos c38] at h
          refine Runs.brT (P := 2 ≤ v22) (a := 36) (b := 34) (L := [.ref 93, .int a1]) (S := []) (z := (zS I23 J24 tg)) rfl c38 ?_
          refine Runs.sN 2 (c' := (38, [.ref 93, .int a1], [.int 5, .ref 93], (zS I23 J24 tg))) rfl ?_
          obtain ⟨I25, J26, c39, h⟩ := h
          refine Runs.cl (cm := 266) (as := [.ref 93, .int 5]) (rest := []) (r1 := (none, (zS I25 J26 tg))) rfl (Nat.le_of_ble_eq_true rfl) c39 ?_
          refine Runs.as (c' := (41, [.ref 93, .int a1], [], (zS I25 J26 tg))) rfl ?_
          refine Runs.sN 2 (c' := (43, [.ref 93, .int a1], [.int (-1), .int a1], (zS I25 J26 tg))) rfl ?_
          by_cases c40 : a1 = (-1)
          · rw [if_pos c40] at h
            refine Runs.brT (P := a1 = (-1)) (a := 46) (b := 53) (L := [.ref 93, .int a1]) (S := []) (z := (zS I25 J26 tg)) rfl c40 ?_
            refine Runs.sN 3 (c' := (59, [.ref 93, .int a1], [.int (I25 93 32)], (zS I25 J26 tg))) rfl ?_
            subst h
            exact Runs.rt rfl
          · rw [if_neg c40] at h
            refine Runs.brF (P := a1 = (-1)) (a := 46) (b := 53) (L := [.ref 93, .int a1]) (S := []) (z := (zS I25 J26 tg)) rfl c40 ?_
            refine Runs.sN 3 (c' := (58, [.ref 93, .int a1], [.int a1, .ref 107], (zS I25 J26 tg))) rfl ?_
            obtain ⟨c41, h⟩ := h
            refine Runs.to (c' := (59, [.ref 93, .int a1], [.int (I25 107 ((a1).toNatClampNeg))], (zS I25 J26 tg))) (Runs.ild rfl (show (107 : Nat) < 114 by decide) rfl c41) ?_
            subst h
            exact Runs.rt rfl
        · rw [if_neg c38] at h
          refine Runs.brF (P := 2 ≤ v22) (a := 36) (b := 34) (L := [.ref 93, .int a1]) (S := []) (z := (zS I23 J24 tg)) rfl c38 ?_
          refine Runs.sN 1 (c' := (35, [.ref 93, .int a1], [.int (-1)], (zS I23 J24 tg))) rfl ?_
          subst h
          exact Runs.rt rfl
-- X12_bars 
theorem sg_268 {L d : Nat} {xs : Nat → Int32} (I : Nat → Nat → Int32) (J : Nat → Nat → Int64) (tg : Option Nat) (a1 : Int32) {r : Option Value × SS} (h : (∃ (v9 : Int32) (I10 : Nat → Nat → Int32) (J11 : Nat → Nat → Int64), Runs (GW L xs) d 177 (0, [.int a1, .int 1, .int 999], [], (zS I J tg)) ((some (.int v9)), (zS I10 J11 tg)) ∧ (if v9 = 0 then (r = (some (.int (-1)), (zS I10 J11 tg))) else (Runs (GW L xs) (d + 1) 268 (15, [.ref 93, .int a1, .int 0], [], (zS I10 J11 tg)) r)))) : Runs (GW L xs) (d + 1) 268 (0, [.ref 93, .int a1, vU], [], (zS I J tg)) r := by
  refine Runs.sN 3 (c' := (5, [.ref 93, .int a1, vU], [.int 999, .int 1, .int a1], (zS I J tg))) rfl ?_
  obtain ⟨v9, I10, J11, c12, h⟩ := h
  refine Runs.cl (cm := 177) (as := [.int a1, .int 1, .int 999]) (rest := []) (r1 := ((some (.int v9)), (zS I10 J11 tg))) rfl (Nat.le_of_ble_eq_true rfl) c12 ?_
  refine Runs.as (c' := (8, [.ref 93, .int a1, vU], [.int v9], (zS I10 J11 tg))) rfl ?_
  by_cases c13 : v9 = 0
  · rw [if_pos c13] at h
    refine Runs.brT (P := v9 = 0) (a := 11) (b := 13) (L := [.ref 93, .int a1, vU]) (S := []) (z := (zS I10 J11 tg)) rfl c13 ?_
    refine Runs.sN 1 (c' := (12, [.ref 93, .int a1, vU], [.int (-1)], (zS I10 J11 tg))) rfl ?_
    subst h
    exact Runs.rt rfl
  · rw [if_neg c13] at h
    refine Runs.brF (P := v9 = 0) (a := 11) (b := 13) (L := [.ref 93, .int a1, vU]) (S := []) (z := (zS I10 J11 tg)) rfl c13 ?_
    refine Runs.sN 2 (c' := (15, [.ref 93, .int a1, .int 0], [], (zS I10 J11 tg))) rfl ?_
    exact h
theorem sg_268_15 {L d : Nat} {xs : Nat → Int32} (I : Nat → Nat → Int32) (J : Nat → Nat → Int64) (tg : Option Nat) (x1 : Int32) (x2 : Int32) {r : Option Value × SS} (h : ((if 6 ≤ x2 then (r = (some (.int (-1)), (zS I J tg))) else (¬ ((840 + x2) < 0 ∨ 1200 ≤ (840 + x2).toNatClampNeg) ∧ (if (I 94 ((840 + x2).toNatClampNeg)) = 0 then (Runs (GW L xs) (d + 1) 268 (15, [.ref 93, .int x1, .int (x2 + 1)], [], (zS I J tg)) r) else (∃ (I1 : Nat → Nat → Int32) (J2 : Nat → Nat → Int64), Runs (GW L xs) d 266 (0, [.ref 93, .int x2, vU, vU, vU, vU], [], (zS I J tg)) (none, (zS I1 J2 tg)) ∧ (if x1 ≤ (I1 93 32) then (Runs (GW L xs) (d + 1) 268 (15, [.ref 93, .int x1, .int (x2 + 1)], [], (zS I1 J2 tg)) r) else (r = (some (.int x2), (zS I1 J2 tg)))))))))) : Runs (GW L xs) (d + 1) 268 (15, [.ref 93, .int x1, .int x2], [], (zS I J tg)) r := by
  refine Runs.sN 2 (c' := (18, [.ref 93, .int x1, .int x2], [.int 6, .int x2], (zS I J tg))) rfl ?_
  by_cases c3 : 6 ≤ x2
  · rw [if_pos c3] at h
    refine Runs.brT (P := 6 ≤ x2) (a := 58) (b := 21) (L := [.ref 93, .int x1, .int x2]) (S := []) (z := (zS I J tg)) rfl c3 ?_
    refine Runs.sN 1 (c' := (59, [.ref 93, .int x1, .int x2], [.int (-1)], (zS I J tg))) rfl ?_
    subst h
    exact Runs.rt rfl
  · rw [if_neg c3] at h
    refine Runs.brF (P := 6 ≤ x2) (a := 58) (b := 21) (L := [.ref 93, .int x1, .int x2]) (S := []) (z := (zS I J tg)) rfl c3 ?_
    refine Runs.sN 5 (c' := (30, [.ref 93, .int x1, .int x2], [.int (840 + x2), .ref 94], (zS I J tg))) rfl ?_
    obtain ⟨c4, h⟩ := h
    refine Runs.to (c' := (31, [.ref 93, .int x1, .int x2], [.int (I 94 ((840 + x2).toNatClampNeg))], (zS I J tg))) (Runs.ild rfl (show (94 : Nat) < 114 by decide) rfl c4) ?_
    by_cases c5 : (I 94 ((840 + x2).toNatClampNeg)) = 0
    · rw [if_pos c5] at h
      refine Runs.brT (P := (I 94 ((840 + x2).toNatClampNeg)) = 0) (a := 34) (b := 37) (L := [.ref 93, .int x1, .int x2]) (S := []) (z := (zS I J tg)) rfl c5 ?_
      refine Runs.sN 3 (c' := (15, [.ref 93, .int x1, .int (x2 + 1)], [], (zS I J tg))) rfl ?_
      exact h
    · rw [if_neg c5] at h
      refine Runs.brF (P := (I 94 ((840 + x2).toNatClampNeg)) = 0) (a := 34) (b := 37) (L := [.ref 93, .int x1, .int x2]) (S := []) (z := (zS I J tg)) rfl c5 ?_
      refine Runs.sN 2 (c' := (39, [.ref 93, .int x1, .int x2], [.int x2, .ref 93], (zS I J tg))) rfl ?_
      obtain ⟨I1, J2, c6, h⟩ := h
      refine Runs.cl (cm := 266) (as := [.ref 93, .int x2]) (rest := []) (r1 := (none, (zS I1 J2 tg))) rfl (Nat.le_of_ble_eq_true rfl) c6 ?_
      refine Runs.as (c' := (42, [.ref 93, .int x1, .int x2], [], (zS I1 J2 tg))) rfl ?_
      refine Runs.sN 3 (c' := (47, [.ref 93, .int x1, .int x2], [.int x1, .int (I1 93 32)], (zS I1 J2 tg))) rfl ?_
      by_cases c7 : x1 ≤ (I1 93 32)
      · rw [if_pos c7] at h
        refine Runs.brT (P := x1 ≤ (I1 93 32)) (a := 52) (b := 50) (L := [.ref 93, .int x1, .int x2]) (S := []) (z := (zS I1 J2 tg)) rfl c7 ?_
        refine Runs.sN 2 (c' := (15, [.ref 93, .int x1, .int (x2 + 1)], [], (zS I1 J2 tg))) rfl ?_
        exact h
      · rw [if_neg c7] at h
        refine Runs.brF (P := x1 ≤ (I1 93 32)) (a := 52) (b := 50) (L := [.ref 93, .int x1, .int x2]) (S := []) (z := (zS I1 J2 tg)) rfl c7 ?_
        refine Runs.sN 1 (c' := (51, [.ref 93, .int x1, .int x2], [.int x2], (zS I1 J2 tg))) rfl ?_
        subst h
        exact Runs.rt rfl
-- X12_group 
theorem sg_269 {L d : Nat} {xs : Nat → Int32} (I : Nat → Nat → Int32) (J : Nat → Nat → Int64) (tg : Option Nat) (a1 : Int32) (a2 : Int32) {r : Option Value × SS} (h : (∃ (v7 : Int32) (I8 : Nat → Nat → Int32) (J9 : Nat → Nat → Int64), Runs (GW L xs) d 180 (0, [.ref 93, .int a1], [], (zS I J tg)) ((some (.int v7)), (zS I8 J9 tg)) ∧ (if v7 = 0 then (r = (some (.int 0), (zS I8 J9 tg))) else (∃ (v10 : Int32) (I11 : Nat → Nat → Int32) (J12 : Nat → Nat → Int64), Runs (GW L xs) d 177 (0, [.int a2, .int 0, .int 5], [], (zS I8 J9 tg)) ((some (.int v10)), (zS I11 J12 tg)) ∧ (if v10 = 0 then (r = (some (.int 0), (zS I11 J12 tg))) else (¬ (((780 + a1) - 12) < 0 ∨ 1200 ≤ ((780 + a1) - 12).toNatClampNeg) ∧ r = (some (.int 1), (zS (up2 I11 94 (((780 + a1) - 12).toNatClampNeg) a2) J12 tg)))))))) : Runs (GW L xs) (d + 1) 269 (0, [.ref 93, .int a1, .int a2], [], (zS I J tg)) r := by
  refine Runs.sN 2 (c' := (2, [.ref 93, .int a1, .int a2], [.int a1, .ref 93], (zS I J tg))) rfl ?_
  obtain ⟨v7, I8, J9, c13, h⟩ := h
  refine Runs.cl (cm := 180) (as := [.ref 93, .int a1]) (rest := []) (r1 := ((some (.int v7)), (zS I8 J9 tg))) rfl (Nat.le_of_ble_eq_true rfl) c13 ?_
  refine Runs.as (c' := (5, [.ref 93, .int a1, .int a2], [.int v7], (zS I8 J9 tg))) rfl ?_
  by_cases c14 : v7 = 0
  · rw [if_pos c14] at h
    refine Runs.brT (P := v7 = 0) (a := 17) (b := 8) (L := [.ref 93, .int a1, .int a2]) (S := []) (z := (zS I8 J9 tg)) rfl c14 ?_
    refine Runs.sN 1 (c' := (18, [.ref 93, .int a1, .int a2], [.int 0], (zS I8 J9 tg))) rfl ?_
    subst h
    exact Runs.rt rfl
  · rw [if_neg c14] at h
    refine Runs.brF (P := v7 = 0) (a := 17) (b := 8) (L := [.ref 93, .int a1, .int a2]) (S := []) (z := (zS I8 J9 tg)) rfl c14 ?_
    refine Runs.sN 3 (c' := (11, [.ref 93, .int a1, .int a2], [.int 5, .int 0, .int a2], (zS I8 J9 tg))) rfl ?_
    obtain ⟨v10, I11, J12, c15, h⟩ := h
    refine Runs.cl (cm := 177) (as := [.int a2, .int 0, .int 5]) (rest := []) (r1 := ((some (.int v10)), (zS I11 J12 tg))) rfl (Nat.le_of_ble_eq_true rfl) c15 ?_
    refine Runs.as (c' := (14, [.ref 93, .int a1, .int a2], [.int v10], (zS I11 J12 tg))) rfl ?_
    by_cases c16 : v10 = 0
    · rw [if_pos c16] at h
      refine Runs.brT (P := v10 = 0) (a := 17) (b := 19) (L := [.ref 93, .int a1, .int a2]) (S := []) (z := (zS I11 J12 tg)) rfl c16 ?_
      refine Runs.sN 1 (c' := (18, [.ref 93, .int a1, .int a2], [.int 0], (zS I11 J12 tg))) rfl ?_
      subst h
      exact Runs.rt rfl
    · rw [if_neg c16] at h
      refine Runs.brF (P := v10 = 0) (a := 17) (b := 19) (L := [.ref 93, .int a1, .int a2]) (S := []) (z := (zS I11 J12 tg)) rfl c16 ?_
      refine Runs.sN 8 (c' := (32, [.ref 93, .int a1, .int a2], [.int a2, .int ((780 + a1) - 12), .ref 94], (zS I11 J12 tg))) rfl ?_
      obtain ⟨c17, h⟩ := h
      refine Runs.to (c' := (33, [.ref 93, .int a1, .int a2], [], (zS (up2 I11 94 (((780 + a1) - 12).toNatClampNeg) a2) J12 tg))) (Runs.ist rfl (show (94 : Nat) < 114 by decide) rfl c17) ?_
      refine Runs.sN 1 (c' := (34, [.ref 93, .int a1, .int a2], [.int 1], (zS (up2 I11 94 (((780 + a1) - 12).toNatClampNeg) a2) J12 tg))) rfl ?_
      subst h
      exact Runs.rt rfl
-- X12_hang 
theorem sg_270 {L d : Nat} {xs : Nat → Int32} (I : Nat → Nat → Int32) (J : Nat → Nat → Int64) (tg : Option Nat) (a1 : Int32) {r : Option Value × SS} (h : (∃ (v4 : Int32) (I5 : Nat → Nat → Int32) (J6 : Nat → Nat → Int64), Runs (GW L xs) d 179 (0, [.ref 93, .int a1], [], (zS I J tg)) ((some (.int v4)), (zS I5 J6 tg)) ∧ (if v4 = 0 then (r = (some (.int (-1)), (zS I5 J6 tg))) else ((if (I5 94 6) = 8 then (r = (some (.int (-1)), (zS I5 J6 tg))) else (¬ ((880 + (I5 94 6)) < 0 ∨ 1200 ≤ (880 + (I5 94 6)).toNatClampNeg) ∧ r = (some (.int (((up2 I5 94 ((880 + (I5 94 6)).toNatClampNeg) a1) 94 6) + 1)), (zS (up2 (up2 I5 94 ((880 + (I5 94 6)).toNatClampNeg) a1) 94 6 (((up2 I5 94 ((880 + (I5 94 6)).toNatClampNeg) a1) 94 6) + 1)) J6 tg)))))))) : Runs (GW L xs) (d + 1) 270 (0, [.ref 93, .int a1], [], (zS I J tg)) r := by
  refine Runs.sN 2 (c' := (2, [.ref 93, .int a1], [.int a1, .ref 93], (zS I J tg))) rfl ?_
  obtain ⟨v4, I5, J6, c7, h⟩ := h
  refine Runs.cl (cm := 179) (as := [.ref 93, .int a1]) (rest := []) (r1 := ((some (.int v4)), (zS I5 J6 tg))) rfl (Nat.le_of_ble_eq_true rfl) c7 ?_
  refine Runs.as (c' := (5, [.ref 93, .int a1], [.int v4], (zS I5 J6 tg))) rfl ?_
  by_cases c8 : v4 = 0
  · rw [if_pos c8] at h
    refine Runs.brT (P := v4 = 0) (a := 20) (b := 8) (L := [.ref 93, .int a1]) (S := []) (z := (zS I5 J6 tg)) rfl c8 ?_
    refine Runs.sN 1 (c' := (21, [.ref 93, .int a1], [.int (-1)], (zS I5 J6 tg))) rfl ?_
    subst h
    exact Runs.rt rfl
  · rw [if_neg c8] at h
    refine Runs.brF (P := v4 = 0) (a := 20) (b := 8) (L := [.ref 93, .int a1]) (S := []) (z := (zS I5 J6 tg)) rfl c8 ?_
    refine Runs.sN 5 (c' := (17, [.ref 93, .int a1], [.int 8, .int (I5 94 6)], (zS I5 J6 tg))) rfl ?_
    by_cases c9 : (I5 94 6) = 8
    · rw [if_pos c9] at h
      refine Runs.brT (P := (I5 94 6) = 8) (a := 20) (b := 22) (L := [.ref 93, .int a1]) (S := []) (z := (zS I5 J6 tg)) rfl c9 ?_
      refine Runs.sN 1 (c' := (21, [.ref 93, .int a1], [.int (-1)], (zS I5 J6 tg))) rfl ?_
      subst h
      exact Runs.rt rfl
    · rw [if_neg c9] at h
      refine Runs.brF (P := (I5 94 6) = 8) (a := 20) (b := 22) (L := [.ref 93, .int a1]) (S := []) (z := (zS I5 J6 tg)) rfl c9 ?_
      refine Runs.sN 9 (c' := (38, [.ref 93, .int a1], [.int a1, .int (880 + (I5 94 6)), .ref 94], (zS I5 J6 tg))) rfl ?_
      obtain ⟨c10, h⟩ := h
      refine Runs.to (c' := (39, [.ref 93, .int a1], [], (zS (up2 I5 94 ((880 + (I5 94 6)).toNatClampNeg) a1) J6 tg))) (Runs.ist rfl (show (94 : Nat) < 114 by decide) rfl c10) ?_
      refine Runs.sN 12 (c' := (57, [.ref 93, .int a1], [.int (((up2 I5 94 ((880 + (I5 94 6)).toNatClampNeg) a1) 94 6) + 1)], (zS (up2 (up2 I5 94 ((880 + (I5 94 6)).toNatClampNeg) a1) 94 6 (((up2 I5 94 ((880 + (I5 94 6)).toNatClampNeg) a1) 94 6) + 1)) J6 tg))) rfl ?_
      subst h
      exact Runs.rt rfl
-- X12_unhang 
theorem sg_271 {L d : Nat} {xs : Nat → Int32} (I : Nat → Nat → Int32) (J : Nat → Nat → Int64) (tg : Option Nat) {r : Option Value × SS} (h : (r = (some (.int (I 94 6)), (zS (up2 I 94 6 0) J tg)))) : Runs (GW L xs) d 271 (0, [.ref 93, vU], [], (zS I J tg)) r := by
  refine Runs.sN 11 (c' := (17, [.ref 93, .int (I 94 6)], [.int (I 94 6)], (zS (up2 I 94 6 0) J tg))) rfl ?_
  subst h
  exact Runs.rt rfl
-- X12_groupOf 
theorem sg_272 {L d : Nat} {xs : Nat → Int32} (I : Nat → Nat → Int32) (J : Nat → Nat → Int64) (tg : Option Nat) (a1 : Int32) {r : Option Value × SS} (h : ((if 0 ≤ a1 then (¬ (((780 + a1) - 12) < 0 ∨ 1200 ≤ ((780 + a1) - 12).toNatClampNeg) ∧ r = (some (.int (I 94 (((780 + a1) - 12).toNatClampNeg))), (zS I J tg))) else (r = (some (.int 0), (zS I J tg)))))) : Runs (GW L xs) d 272 (0, [.ref 93, .int a1], [], (zS I J tg)) r := by
  refine Runs.sN 1 (c' := (1, [.ref 93, .int a1], [.int a1], (zS I J tg))) rfl ?_
  by_cases c1 : 0 ≤ a1
  · rw [if_pos c1] at h
    refine Runs.brT (P := 0 ≤ a1) (a := 8) (b := 4) (L := [.ref 93, .int a1]) (S := []) (z := (zS I J tg)) rfl c1 ?_
    refine Runs.sN 7 (c' := (20, [.ref 93, .int a1], [.int ((780 + a1) - 12), .ref 94], (zS I J tg))) rfl ?_
    obtain ⟨c2, h⟩ := h
    refine Runs.to (c' := (21, [.ref 93, .int a1], [.int (I 94 (((780 + a1) - 12).toNatClampNeg))], (zS I J tg))) (Runs.ild rfl (show (94 : Nat) < 114 by decide) rfl c2) ?_
    subst h
    exact Runs.rt rfl
  · rw [if_neg c1] at h
    refine Runs.brF (P := 0 ≤ a1) (a := 8) (b := 4) (L := [.ref 93, .int a1]) (S := []) (z := (zS I J tg)) rfl c1 ?_
    refine Runs.sN 2 (c' := (21, [.ref 93, .int a1], [.int 0], (zS I J tg))) rfl ?_
    subst h
    exact Runs.rt rfl
