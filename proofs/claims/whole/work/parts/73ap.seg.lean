-- X12_made 
theorem sg_259 {L d : Nat} {xs : Nat → Int32} (I : Nat → Nat → Int32) (J : Nat → Nat → Int64) (tg : Option Nat) (a1 : Int32) (a2 : Int32) (a3 : Int32) {r : Option Value × SS} (h : (∃ (v106 : Int32) (I107 : Nat → Nat → Int32) (J108 : Nat → Nat → Int64) (tg109 : Option Nat), Runs (GW L xs) d 179 (0, [.ref 93, .int a1], [], (zS I J tg)) ((some (.int v106)), (zS I107 J108 tg109)) ∧ (if v106 = 0 then (Runs (GW L xs) (d + 1) 259 (24, [.ref 93, .int a1, .int a2, .int a3, vU, vU, vU, vU, vU], [], (zS I107 J108 tg109)) r) else (∃ (v110 : Int32) (I111 : Nat → Nat → Int32) (J112 : Nat → Nat → Int64) (tg113 : Option Nat), Runs (GW L xs) d 182 (0, [.int a2], [], (zS I107 J108 tg109)) ((some (.int v110)), (zS I111 J112 tg113)) ∧ (if v110 = 0 then (Runs (GW L xs) (d + 1) 259 (24, [.ref 93, .int a1, .int a2, .int a3, vU, vU, vU, vU, vU], [], (zS I111 J112 tg113)) r) else (∃ (v114 : Int32) (I115 : Nat → Nat → Int32) (J116 : Nat → Nat → Int64) (tg117 : Option Nat), Runs (GW L xs) d 177 (0, [.int a3, .int 0, .int 2], [], (zS I111 J112 tg113)) ((some (.int v114)), (zS I115 J116 tg117)) ∧ (if v114 = 0 then (Runs (GW L xs) (d + 1) 259 (24, [.ref 93, .int a1, .int a2, .int a3, vU, vU, vU, vU, vU], [], (zS I115 J116 tg117)) r) else (Runs (GW L xs) (d + 1) 259 (35, [.ref 93, .int a1, .int a2, .int a3, .int (-1), .int 0, .int 0, vU, vU], [], (zS I115 J116 tg117)) r)))))))) : Runs (GW L xs) (d + 1) 259 (0, [.ref 93, .int a1, .int a2, .int a3, vU, vU, vU, vU, vU], [], (zS I J tg)) r := by
  refine Runs.sN 2 (c' := (2, [.ref 93, .int a1, .int a2, .int a3, vU, vU, vU, vU, vU], [.int a1, .ref 93], (zS I J tg))) rfl ?_
  obtain ⟨v106, I107, J108, tg109, c118, h⟩ := h
  refine Runs.cl (cm := 179) (as := [.ref 93, .int a1]) (rest := []) (r1 := ((some (.int v106)), (zS I107 J108 tg109))) rfl (Nat.le_of_ble_eq_true rfl) c118 ?_
  refine Runs.as (c' := (5, [.ref 93, .int a1, .int a2, .int a3, vU, vU, vU, vU, vU], [.int v106], (zS I107 J108 tg109))) rfl ?_
  by_cases c119 : v106 = 0
  · rw [if_pos c119] at h
    refine Runs.brT (P := v106 = 0) (a := 24) (b := 8) (L := [.ref 93, .int a1, .int a2, .int a3, vU, vU, vU, vU, vU]) (S := []) (z := (zS I107 J108 tg109)) rfl c119 ?_
    exact h
  · rw [if_neg c119] at h
    refine Runs.brF (P := v106 = 0) (a := 24) (b := 8) (L := [.ref 93, .int a1, .int a2, .int a3, vU, vU, vU, vU, vU]) (S := []) (z := (zS I107 J108 tg109)) rfl c119 ?_
    refine Runs.sN 1 (c' := (9, [.ref 93, .int a1, .int a2, .int a3, vU, vU, vU, vU, vU], [.int a2], (zS I107 J108 tg109))) rfl ?_
    obtain ⟨v110, I111, J112, tg113, c120, h⟩ := h
    refine Runs.cl (cm := 182) (as := [.int a2]) (rest := []) (r1 := ((some (.int v110)), (zS I111 J112 tg113))) rfl (Nat.le_of_ble_eq_true rfl) c120 ?_
    refine Runs.as (c' := (12, [.ref 93, .int a1, .int a2, .int a3, vU, vU, vU, vU, vU], [.int v110], (zS I111 J112 tg113))) rfl ?_
    by_cases c121 : v110 = 0
    · rw [if_pos c121] at h
      refine Runs.brT (P := v110 = 0) (a := 24) (b := 15) (L := [.ref 93, .int a1, .int a2, .int a3, vU, vU, vU, vU, vU]) (S := []) (z := (zS I111 J112 tg113)) rfl c121 ?_
      exact h
    · rw [if_neg c121] at h
      refine Runs.brF (P := v110 = 0) (a := 24) (b := 15) (L := [.ref 93, .int a1, .int a2, .int a3, vU, vU, vU, vU, vU]) (S := []) (z := (zS I111 J112 tg113)) rfl c121 ?_
      refine Runs.sN 3 (c' := (18, [.ref 93, .int a1, .int a2, .int a3, vU, vU, vU, vU, vU], [.int 2, .int 0, .int a3], (zS I111 J112 tg113))) rfl ?_
      obtain ⟨v114, I115, J116, tg117, c122, h⟩ := h
      refine Runs.cl (cm := 177) (as := [.int a3, .int 0, .int 2]) (rest := []) (r1 := ((some (.int v114)), (zS I115 J116 tg117))) rfl (Nat.le_of_ble_eq_true rfl) c122 ?_
      refine Runs.as (c' := (21, [.ref 93, .int a1, .int a2, .int a3, vU, vU, vU, vU, vU], [.int v114], (zS I115 J116 tg117))) rfl ?_
      by_cases c123 : v114 = 0
      · rw [if_pos c123] at h
        refine Runs.brT (P := v114 = 0) (a := 24) (b := 26) (L := [.ref 93, .int a1, .int a2, .int a3, vU, vU, vU, vU, vU]) (S := []) (z := (zS I115 J116 tg117)) rfl c123 ?_
        exact h
      · rw [if_neg c123] at h
        refine Runs.brF (P := v114 = 0) (a := 24) (b := 26) (L := [.ref 93, .int a1, .int a2, .int a3, vU, vU, vU, vU, vU]) (S := []) (z := (zS I115 J116 tg117)) rfl c123 ?_
        refine Runs.sN 6 (c' := (35, [.ref 93, .int a1, .int a2, .int a3, .int (-1), .int 0, .int 0, vU, vU], [], (zS I115 J116 tg117))) rfl ?_
        exact h
theorem sg_259_24 {L d : Nat} {xs : Nat → Int32} (I : Nat → Nat → Int32) (J : Nat → Nat → Int64) (tg : Option Nat) (x1 : Int32) (x2 : Int32) (x3 : Int32) {r : Option Value × SS} (h : (r = (some (.int (-1)), (zS I J tg)))) : Runs (GW L xs) (d + 1) 259 (24, [.ref 93, .int x1, .int x2, .int x3, vU, vU, vU, vU, vU], [], (zS I J tg)) r := by
  refine Runs.sN 1 (c' := (25, [.ref 93, .int x1, .int x2, .int x3, vU, vU, vU, vU, vU], [.int (-1)], (zS I J tg))) rfl ?_
  subst h
  exact Runs.rt rfl
theorem sg_259_35 {L d : Nat} {xs : Nat → Int32} (I : Nat → Nat → Int32) (J : Nat → Nat → Int64) (tg : Option Nat) (x1 : Int32) (x2 : Int32) (x3 : Int32) (x4 : Int32) (x5 : Int32) (x6 : Int32) {r : Option Value × SS} (h : ((if 6 < x6 then ((if x4 < 0 then (Runs (GW L xs) (d + 1) 259 (151, [.ref 93, .int x1, .int x2, .int x3, .int x4, .int x5, .int x6, vU, vU], [], (zS I J tg)) r) else ((if 2 ≤ x3 then (¬ ((20 + (22 * x1)) < 0 ∨ 1200 ≤ (20 + (22 * x1)).toNatClampNeg) ∧ ∃ (I1 : Nat → Nat → Int32) (J2 : Nat → Nat → Int64) (tg3 : Option Nat), Runs (GW L xs) d 258 (0, [.ref 93, .int x1, .int x4, vU], [], (zS (up2 I 94 ((20 + (22 * x1)).toNatClampNeg) 0) J tg)) (none, (zS I1 J2 tg3)) ∧ ∃ (v4 : Int32) (I5 : Nat → Nat → Int32) (J6 : Nat → Nat → Int64) (tg7 : Option Nat), Runs (GW L xs) d 184 (0, [.ref 93, .int x1, .int 0], [], (zS I1 J2 tg3)) ((some (.int v4)), (zS I5 J6 tg7)) ∧ r = (some (.int v4), (zS I5 J6 tg7))) else (Runs (GW L xs) (d + 1) 259 (151, [.ref 93, .int x1, .int x2, .int x3, .int x4, .int x5, .int x6, vU, vU], [], (zS I J tg)) r))))) else (Runs (GW L xs) (d + 1) 259 (45, [.ref 93, .int x1, .int x2, .int x3, .int x4, .int x5, .int x6, .int 0, vU], [], (zS I J tg)) r)))) : Runs (GW L xs) (d + 1) 259 (35, [.ref 93, .int x1, .int x2, .int x3, .int x4, .int x5, .int x6, vU, vU], [], (zS I J tg)) r := by
  refine Runs.sN 2 (c' := (39, [.ref 93, .int x1, .int x2, .int x3, .int x4, .int x5, .int x6, vU, vU], [.int 6, .int x6], (zS I J tg))) rfl ?_
  by_cases c8 : 6 < x6
  · rw [if_pos c8] at h
    refine Runs.brT (P := 6 < x6) (a := 141) (b := 42) (L := [.ref 93, .int x1, .int x2, .int x3, .int x4, .int x5, .int x6, vU, vU]) (S := []) (z := (zS I J tg)) rfl c8 ?_
    refine Runs.sN 1 (c' := (143, [.ref 93, .int x1, .int x2, .int x3, .int x4, .int x5, .int x6, vU, vU], [.int x4], (zS I J tg))) rfl ?_
    by_cases c9 : x4 < 0
    · rw [if_pos c9] at h
      refine Runs.brT (P := x4 < 0) (a := 151) (b := 146) (L := [.ref 93, .int x1, .int x2, .int x3, .int x4, .int x5, .int x6, vU, vU]) (S := []) (z := (zS I J tg)) rfl c9 ?_
      exact h
    · rw [if_neg c9] at h
      refine Runs.brF (P := x4 < 0) (a := 151) (b := 146) (L := [.ref 93, .int x1, .int x2, .int x3, .int x4, .int x5, .int x6, vU, vU]) (S := []) (z := (zS I J tg)) rfl c9 ?_
      refine Runs.sN 2 (c' := (148, [.ref 93, .int x1, .int x2, .int x3, .int x4, .int x5, .int x6, vU, vU], [.int 2, .int x3], (zS I J tg))) rfl ?_
      by_cases c10 : 2 ≤ x3
      · rw [if_pos c10] at h
        refine Runs.brT (P := 2 ≤ x3) (a := 168) (b := 151) (L := [.ref 93, .int x1, .int x2, .int x3, .int x4, .int x5, .int x6, vU, vU]) (S := []) (z := (zS I J tg)) rfl c10 ?_
        refine Runs.sN 8 (c' := (180, [.ref 93, .int x1, .int x2, .int x3, .int x4, .int x5, .int x6, vU, vU], [.int 0, .int (20 + (22 * x1)), .ref 94], (zS I J tg))) rfl ?_
        obtain ⟨c11, h⟩ := h
        refine Runs.to (c' := (181, [.ref 93, .int x1, .int x2, .int x3, .int x4, .int x5, .int x6, vU, vU], [], (zS (up2 I 94 ((20 + (22 * x1)).toNatClampNeg) 0) J tg))) (Runs.ist rfl (show (94 : Nat) < 114 by decide) rfl c11) ?_
        refine Runs.sN 3 (c' := (185, [.ref 93, .int x1, .int x2, .int x3, .int x4, .int x5, .int x6, vU, vU], [.int x4, .int x1, .ref 93], (zS (up2 I 94 ((20 + (22 * x1)).toNatClampNeg) 0) J tg))) rfl ?_
        obtain ⟨I1, J2, tg3, c12, h⟩ := h
        refine Runs.cl (cm := 258) (as := [.ref 93, .int x1, .int x4]) (rest := []) (r1 := (none, (zS I1 J2 tg3))) rfl (Nat.le_of_ble_eq_true rfl) c12 ?_
        refine Runs.as (c' := (188, [.ref 93, .int x1, .int x2, .int x3, .int x4, .int x5, .int x6, vU, vU], [], (zS I1 J2 tg3))) rfl ?_
        refine Runs.sN 3 (c' := (191, [.ref 93, .int x1, .int x2, .int x3, .int x4, .int x5, .int x6, vU, vU], [.int 0, .int x1, .ref 93], (zS I1 J2 tg3))) rfl ?_
        obtain ⟨v4, I5, J6, tg7, c13, h⟩ := h
        refine Runs.cl (cm := 184) (as := [.ref 93, .int x1, .int 0]) (rest := []) (r1 := ((some (.int v4)), (zS I5 J6 tg7))) rfl (Nat.le_of_ble_eq_true rfl) c13 ?_
        refine Runs.as (c' := (194, [.ref 93, .int x1, .int x2, .int x3, .int x4, .int x5, .int x6, vU, vU], [.int v4], (zS I5 J6 tg7))) rfl ?_
        subst h
        exact Runs.rt rfl
      · rw [if_neg c10] at h
        refine Runs.brF (P := 2 ≤ x3) (a := 168) (b := 151) (L := [.ref 93, .int x1, .int x2, .int x3, .int x4, .int x5, .int x6, vU, vU]) (S := []) (z := (zS I J tg)) rfl c10 ?_
        exact h
  · rw [if_neg c8] at h
    refine Runs.brF (P := 6 < x6) (a := 141) (b := 42) (L := [.ref 93, .int x1, .int x2, .int x3, .int x4, .int x5, .int x6, vU, vU]) (S := []) (z := (zS I J tg)) rfl c8 ?_
    refine Runs.sN 2 (c' := (45, [.ref 93, .int x1, .int x2, .int x3, .int x4, .int x5, .int x6, .int 0, vU], [], (zS I J tg))) rfl ?_
    exact h
theorem sg_259_45 {L d : Nat} {xs : Nat → Int32} (I : Nat → Nat → Int32) (J : Nat → Nat → Int64) (tg : Option Nat) (x1 : Int32) (x2 : Int32) (x3 : Int32) (x4 : Int32) (x5 : Int32) (x6 : Int32) (x7 : Int32) {r : Option Value × SS} (h : ((if (1 <<< ((I 94 5) &&& 31)) ≤ x7 then (Runs (GW L xs) (d + 1) 259 (35, [.ref 93, .int x1, .int x2, .int x3, .int x4, .int x5, .int (x6 + 1), vU, vU], [], (zS I J tg)) r) else (∃ (v1 : Int32) (I2 : Nat → Nat → Int32) (J3 : Nat → Nat → Int64) (tg4 : Option Nat), Runs (GW L xs) d 185 (0, [.int x7, vU, vU], [], (zS I J tg)) ((some (.int v1)), (zS I2 J3 tg4)) ∧ (if v1 = x6 then (∃ (I5 : Nat → Nat → Int32) (J6 : Nat → Nat → Int64) (tg7 : Option Nat), Runs (GW L xs) d 257 (0, [.ref 93, .int x1, vU], [], (zS I2 J3 tg4)) (none, (zS I5 J6 tg7)) ∧ ∃ (I8 : Nat → Nat → Int32) (J9 : Nat → Nat → Int64) (tg10 : Option Nat), Runs (GW L xs) d 258 (0, [.ref 93, .int 24, .int x7, vU], [], (zS I5 J6 tg7)) (none, (zS I8 J9 tg10)) ∧ ∃ (v11 : Int32) (I12 : Nat → Nat → Int32) (J13 : Nat → Nat → Int64) (tg14 : Option Nat), Runs (GW L xs) d 243 (0, [.ref 93, .int 24], [], (zS I8 J9 tg10)) ((some (.int v11)), (zS I12 J13 tg14)) ∧ (if v11 = 0 then (Runs (GW L xs) (d + 1) 259 (129, [.ref 93, .int x1, .int x2, .int x3, .int x4, .int x5, .int x6, .int x7, vU], [], (zS I12 J13 tg14)) r) else (∃ (v15 : Int32) (I16 : Nat → Nat → Int32) (J17 : Nat → Nat → Int64) (tg18 : Option Nat), Runs (GW L xs) d 252 (0, [.ref 93, .int 24, .int x1, .int x2, vU, vU], [], (zS I12 J13 tg14)) ((some (.int v15)), (zS I16 J17 tg18)) ∧ (if x4 < 0 then (Runs (GW L xs) (d + 1) 259 (121, [.ref 93, .int x1, .int x2, .int x3, .int x4, .int x5, .int x6, .int x7, .int v15], [], (zS I16 J17 tg18)) r) else ((if v15 < x5 then (Runs (GW L xs) (d + 1) 259 (121, [.ref 93, .int x1, .int x2, .int x3, .int x4, .int x5, .int x6, .int x7, .int v15], [], (zS I16 J17 tg18)) r) else (Runs (GW L xs) (d + 1) 259 (129, [.ref 93, .int x1, .int x2, .int x3, .int x4, .int x5, .int x6, .int x7, vU], [], (zS I16 J17 tg18)) r))))))) else (Runs (GW L xs) (d + 1) 259 (129, [.ref 93, .int x1, .int x2, .int x3, .int x4, .int x5, .int x6, .int x7, vU], [], (zS I2 J3 tg4)) r)))))) : Runs (GW L xs) (d + 1) 259 (45, [.ref 93, .int x1, .int x2, .int x3, .int x4, .int x5, .int x6, .int x7, vU], [], (zS I J tg)) r := by
  refine Runs.sN 7 (c' := (55, [.ref 93, .int x1, .int x2, .int x3, .int x4, .int x5, .int x6, .int x7, vU], [.int (1 <<< ((I 94 5) &&& 31)), .int x7], (zS I J tg))) rfl ?_
  by_cases c19 : (1 <<< ((I 94 5) &&& 31)) ≤ x7
  · rw [if_pos c19] at h
    refine Runs.brT (P := (1 <<< ((I 94 5) &&& 31)) ≤ x7) (a := 135) (b := 58) (L := [.ref 93, .int x1, .int x2, .int x3, .int x4, .int x5, .int x6, .int x7, vU]) (S := []) (z := (zS I J tg)) rfl c19 ?_
    refine Runs.sN 2 (c' := (35, [.ref 93, .int x1, .int x2, .int x3, .int x4, .int x5, .int (x6 + 1), .int x7, vU], [], (zS I J tg))) rfl ?_
    exact Runs.weak (L := [.ref 93, .int x1, .int x2, .int x3, .int x4, .int x5, .int (x6 + 1), vU, vU]) (Lle.k (Lle.k (Lle.k (Lle.k (Lle.k (Lle.k (Lle.k (Lle.u (Lle.k Lle.n))))))))) h
  · rw [if_neg c19] at h
    refine Runs.brF (P := (1 <<< ((I 94 5) &&& 31)) ≤ x7) (a := 135) (b := 58) (L := [.ref 93, .int x1, .int x2, .int x3, .int x4, .int x5, .int x6, .int x7, vU]) (S := []) (z := (zS I J tg)) rfl c19 ?_
    refine Runs.sN 1 (c' := (60, [.ref 93, .int x1, .int x2, .int x3, .int x4, .int x5, .int x6, .int x7, vU], [.int x7], (zS I J tg))) rfl ?_
    obtain ⟨v1, I2, J3, tg4, c20, h⟩ := h
    refine Runs.cl (cm := 185) (as := [.int x7]) (rest := []) (r1 := ((some (.int v1)), (zS I2 J3 tg4))) rfl (Nat.le_of_ble_eq_true rfl) c20 ?_
    refine Runs.as (c' := (63, [.ref 93, .int x1, .int x2, .int x3, .int x4, .int x5, .int x6, .int x7, vU], [.int v1], (zS I2 J3 tg4))) rfl ?_
    refine Runs.sN 1 (c' := (65, [.ref 93, .int x1, .int x2, .int x3, .int x4, .int x5, .int x6, .int x7, vU], [.int x6, .int v1], (zS I2 J3 tg4))) rfl ?_
    by_cases c21 : v1 = x6
    · rw [if_pos c21] at h
      refine Runs.brT (P := v1 = x6) (a := 71) (b := 68) (L := [.ref 93, .int x1, .int x2, .int x3, .int x4, .int x5, .int x6, .int x7, vU]) (S := []) (z := (zS I2 J3 tg4)) rfl c21 ?_
      refine Runs.sN 2 (c' := (73, [.ref 93, .int x1, .int x2, .int x3, .int x4, .int x5, .int x6, .int x7, vU], [.int x1, .ref 93], (zS I2 J3 tg4))) rfl ?_
      obtain ⟨I5, J6, tg7, c22, h⟩ := h
      refine Runs.cl (cm := 257) (as := [.ref 93, .int x1]) (rest := []) (r1 := (none, (zS I5 J6 tg7))) rfl (Nat.le_of_ble_eq_true rfl) c22 ?_
      refine Runs.as (c' := (76, [.ref 93, .int x1, .int x2, .int x3, .int x4, .int x5, .int x6, .int x7, vU], [], (zS I5 J6 tg7))) rfl ?_
      refine Runs.sN 3 (c' := (81, [.ref 93, .int x1, .int x2, .int x3, .int x4, .int x5, .int x6, .int x7, vU], [.int x7, .int 24, .ref 93], (zS I5 J6 tg7))) rfl ?_
      obtain ⟨I8, J9, tg10, c23, h⟩ := h
      refine Runs.cl (cm := 258) (as := [.ref 93, .int 24, .int x7]) (rest := []) (r1 := (none, (zS I8 J9 tg10))) rfl (Nat.le_of_ble_eq_true rfl) c23 ?_
      refine Runs.as (c' := (84, [.ref 93, .int x1, .int x2, .int x3, .int x4, .int x5, .int x6, .int x7, vU], [], (zS I8 J9 tg10))) rfl ?_
      refine Runs.sN 2 (c' := (87, [.ref 93, .int x1, .int x2, .int x3, .int x4, .int x5, .int x6, .int x7, vU], [.int 24, .ref 93], (zS I8 J9 tg10))) rfl ?_
      obtain ⟨v11, I12, J13, tg14, c24, h⟩ := h
      refine Runs.cl (cm := 243) (as := [.ref 93, .int 24]) (rest := []) (r1 := ((some (.int v11)), (zS I12 J13 tg14))) rfl (Nat.le_of_ble_eq_true rfl) c24 ?_
      refine Runs.as (c' := (90, [.ref 93, .int x1, .int x2, .int x3, .int x4, .int x5, .int x6, .int x7, vU], [.int v11], (zS I12 J13 tg14))) rfl ?_
      by_cases c25 : v11 = 0
      · rw [if_pos c25] at h
        refine Runs.brT (P := v11 = 0) (a := 93) (b := 96) (L := [.ref 93, .int x1, .int x2, .int x3, .int x4, .int x5, .int x6, .int x7, vU]) (S := []) (z := (zS I12 J13 tg14)) rfl c25 ?_
        refine Runs.sN 1 (c' := (129, [.ref 93, .int x1, .int x2, .int x3, .int x4, .int x5, .int x6, .int x7, vU], [], (zS I12 J13 tg14))) rfl ?_
        exact h
      · rw [if_neg c25] at h
        refine Runs.brF (P := v11 = 0) (a := 93) (b := 96) (L := [.ref 93, .int x1, .int x2, .int x3, .int x4, .int x5, .int x6, .int x7, vU]) (S := []) (z := (zS I12 J13 tg14)) rfl c25 ?_
        refine Runs.sN 4 (c' := (101, [.ref 93, .int x1, .int x2, .int x3, .int x4, .int x5, .int x6, .int x7, vU], [.int x2, .int x1, .int 24, .ref 93], (zS I12 J13 tg14))) rfl ?_
        obtain ⟨v15, I16, J17, tg18, c26, h⟩ := h
        refine Runs.cl (cm := 252) (as := [.ref 93, .int 24, .int x1, .int x2]) (rest := []) (r1 := ((some (.int v15)), (zS I16 J17 tg18))) rfl (Nat.le_of_ble_eq_true rfl) c26 ?_
        refine Runs.as (c' := (104, [.ref 93, .int x1, .int x2, .int x3, .int x4, .int x5, .int x6, .int x7, vU], [.int v15], (zS I16 J17 tg18))) rfl ?_
        refine Runs.sN 2 (c' := (108, [.ref 93, .int x1, .int x2, .int x3, .int x4, .int x5, .int x6, .int x7, .int v15], [.int x4], (zS I16 J17 tg18))) rfl ?_
        by_cases c27 : x4 < 0
        · rw [if_pos c27] at h
          refine Runs.brT (P := x4 < 0) (a := 121) (b := 111) (L := [.ref 93, .int x1, .int x2, .int x3, .int x4, .int x5, .int x6, .int x7, .int v15]) (S := []) (z := (zS I16 J17 tg18)) rfl c27 ?_
          exact h
        · rw [if_neg c27] at h
          refine Runs.brF (P := x4 < 0) (a := 121) (b := 111) (L := [.ref 93, .int x1, .int x2, .int x3, .int x4, .int x5, .int x6, .int x7, .int v15]) (S := []) (z := (zS I16 J17 tg18)) rfl c27 ?_
          refine Runs.sN 2 (c' := (115, [.ref 93, .int x1, .int x2, .int x3, .int x4, .int x5, .int x6, .int x7, .int v15], [.int x5, .int v15], (zS I16 J17 tg18))) rfl ?_
          by_cases c28 : v15 < x5
          · rw [if_pos c28] at h
            refine Runs.brT (P := v15 < x5) (a := 121) (b := 118) (L := [.ref 93, .int x1, .int x2, .int x3, .int x4, .int x5, .int x6, .int x7, .int v15]) (S := []) (z := (zS I16 J17 tg18)) rfl c28 ?_
            exact h
          · rw [if_neg c28] at h
            refine Runs.brF (P := v15 < x5) (a := 121) (b := 118) (L := [.ref 93, .int x1, .int x2, .int x3, .int x4, .int x5, .int x6, .int x7, .int v15]) (S := []) (z := (zS I16 J17 tg18)) rfl c28 ?_
            refine Runs.sN 1 (c' := (129, [.ref 93, .int x1, .int x2, .int x3, .int x4, .int x5, .int x6, .int x7, .int v15], [], (zS I16 J17 tg18))) rfl ?_
            exact Runs.weak (L := [.ref 93, .int x1, .int x2, .int x3, .int x4, .int x5, .int x6, .int x7, vU]) (Lle.k (Lle.k (Lle.k (Lle.k (Lle.k (Lle.k (Lle.k (Lle.k (Lle.u Lle.n))))))))) h
    · rw [if_neg c21] at h
      refine Runs.brF (P := v1 = x6) (a := 71) (b := 68) (L := [.ref 93, .int x1, .int x2, .int x3, .int x4, .int x5, .int x6, .int x7, vU]) (S := []) (z := (zS I2 J3 tg4)) rfl c21 ?_
      refine Runs.sN 1 (c' := (129, [.ref 93, .int x1, .int x2, .int x3, .int x4, .int x5, .int x6, .int x7, vU], [], (zS I2 J3 tg4))) rfl ?_
      exact h
theorem sg_259_121 {L d : Nat} {xs : Nat → Int32} (I : Nat → Nat → Int32) (J : Nat → Nat → Int64) (tg : Option Nat) (x1 : Int32) (x2 : Int32) (x3 : Int32) (x4 : Int32) (x5 : Int32) (x6 : Int32) (x7 : Int32) (x8 : Int32) {r : Option Value × SS} (h : (Runs (GW L xs) (d + 1) 259 (129, [.ref 93, .int x1, .int x2, .int x3, .int x7, .int x8, .int x6, .int x7, vU], [], (zS I J tg)) r)) : Runs (GW L xs) (d + 1) 259 (121, [.ref 93, .int x1, .int x2, .int x3, .int x4, .int x5, .int x6, .int x7, .int x8], [], (zS I J tg)) r := by
  refine Runs.sN 4 (c' := (129, [.ref 93, .int x1, .int x2, .int x3, .int x7, .int x8, .int x6, .int x7, .int x8], [], (zS I J tg))) rfl ?_
  exact Runs.weak (L := [.ref 93, .int x1, .int x2, .int x3, .int x7, .int x8, .int x6, .int x7, vU]) (Lle.k (Lle.k (Lle.k (Lle.k (Lle.k (Lle.k (Lle.k (Lle.k (Lle.u Lle.n))))))))) h
theorem sg_259_129 {L d : Nat} {xs : Nat → Int32} (I : Nat → Nat → Int32) (J : Nat → Nat → Int64) (tg : Option Nat) (x1 : Int32) (x2 : Int32) (x3 : Int32) (x4 : Int32) (x5 : Int32) (x6 : Int32) (x7 : Int32) {r : Option Value × SS} (h : (Runs (GW L xs) (d + 1) 259 (45, [.ref 93, .int x1, .int x2, .int x3, .int x4, .int x5, .int x6, .int (x7 + 1), vU], [], (zS I J tg)) r)) : Runs (GW L xs) (d + 1) 259 (129, [.ref 93, .int x1, .int x2, .int x3, .int x4, .int x5, .int x6, .int x7, vU], [], (zS I J tg)) r := by
  refine Runs.sN 2 (c' := (45, [.ref 93, .int x1, .int x2, .int x3, .int x4, .int x5, .int x6, .int (x7 + 1), vU], [], (zS I J tg))) rfl ?_
  exact h
theorem sg_259_151 {L d : Nat} {xs : Nat → Int32} (I : Nat → Nat → Int32) (J : Nat → Nat → Int64) (tg : Option Nat) (x1 : Int32) (x2 : Int32) (x3 : Int32) (x4 : Int32) (x5 : Int32) (x6 : Int32) {r : Option Value × SS} (h : ((if x4 < 0 then (Runs (GW L xs) (d + 1) 259 (160, [.ref 93, .int x1, .int x2, .int x3, .int x4, .int x5, .int x6, vU, vU], [], (zS I J tg)) r) else ((if x3 = 0 then (Runs (GW L xs) (d + 1) 259 (160, [.ref 93, .int x1, .int x2, .int x3, .int x4, .int x5, .int x6, vU, vU], [], (zS I J tg)) r) else (Runs (GW L xs) (d + 1) 259 (167, [.ref 93, .int x1, .int x2, .int x3, .int x4, .int x5, .int x6, vU, vU], [.int x5], (zS I J tg)) r)))))) : Runs (GW L xs) (d + 1) 259 (151, [.ref 93, .int x1, .int x2, .int x3, .int x4, .int x5, .int x6, vU, vU], [], (zS I J tg)) r := by
  refine Runs.sN 1 (c' := (153, [.ref 93, .int x1, .int x2, .int x3, .int x4, .int x5, .int x6, vU, vU], [.int x4], (zS I J tg))) rfl ?_
  by_cases c1 : x4 < 0
  · rw [if_pos c1] at h
    refine Runs.brT (P := x4 < 0) (a := 160) (b := 156) (L := [.ref 93, .int x1, .int x2, .int x3, .int x4, .int x5, .int x6, vU, vU]) (S := []) (z := (zS I J tg)) rfl c1 ?_
    exact h
  · rw [if_neg c1] at h
    refine Runs.brF (P := x4 < 0) (a := 160) (b := 156) (L := [.ref 93, .int x1, .int x2, .int x3, .int x4, .int x5, .int x6, vU, vU]) (S := []) (z := (zS I J tg)) rfl c1 ?_
    refine Runs.sN 1 (c' := (157, [.ref 93, .int x1, .int x2, .int x3, .int x4, .int x5, .int x6, vU, vU], [.int x3], (zS I J tg))) rfl ?_
    by_cases c2 : x3 = 0
    · rw [if_pos c2] at h
      refine Runs.brT (P := x3 = 0) (a := 160) (b := 165) (L := [.ref 93, .int x1, .int x2, .int x3, .int x4, .int x5, .int x6, vU, vU]) (S := []) (z := (zS I J tg)) rfl c2 ?_
      exact h
    · rw [if_neg c2] at h
      refine Runs.brF (P := x3 = 0) (a := 160) (b := 165) (L := [.ref 93, .int x1, .int x2, .int x3, .int x4, .int x5, .int x6, vU, vU]) (S := []) (z := (zS I J tg)) rfl c2 ?_
      refine Runs.sN 1 (c' := (167, [.ref 93, .int x1, .int x2, .int x3, .int x4, .int x5, .int x6, vU, vU], [.int x5], (zS I J tg))) rfl ?_
      exact h
theorem sg_259_160 {L d : Nat} {xs : Nat → Int32} (I : Nat → Nat → Int32) (J : Nat → Nat → Int64) (tg : Option Nat) (x1 : Int32) (x2 : Int32) (x3 : Int32) (x4 : Int32) (x5 : Int32) (x6 : Int32) {r : Option Value × SS} (h : (Runs (GW L xs) (d + 1) 259 (167, [.ref 93, .int x1, .int x2, .int x3, .int x4, .int x5, .int x6, vU, vU], [.int x4], (zS I J tg)) r)) : Runs (GW L xs) (d + 1) 259 (160, [.ref 93, .int x1, .int x2, .int x3, .int x4, .int x5, .int x6, vU, vU], [], (zS I J tg)) r := by
  refine Runs.sN 2 (c' := (167, [.ref 93, .int x1, .int x2, .int x3, .int x4, .int x5, .int x6, vU, vU], [.int x4], (zS I J tg))) rfl ?_
  exact h
theorem sg_259_167 {L d : Nat} {xs : Nat → Int32} (I : Nat → Nat → Int32) (J : Nat → Nat → Int64) (tg : Option Nat) (x1 : Int32) (x2 : Int32) (x3 : Int32) (x4 : Int32) (x5 : Int32) (x6 : Int32) (y0 : Int32) {r : Option Value × SS} (h : (r = (some (.int y0), (zS I J tg)))) : Runs (GW L xs) (d + 1) 259 (167, [.ref 93, .int x1, .int x2, .int x3, .int x4, .int x5, .int x6, vU, vU], [.int y0], (zS I J tg)) r := by
  subst h
  exact Runs.rt rfl
-- X12_isSet 
theorem sg_260 {L d : Nat} {xs : Nat → Int32} (I : Nat → Nat → Int32) (J : Nat → Nat → Int64) (tg : Option Nat) (a1 : Int32) {r : Option Value × SS} (h : (∃ (v5 : Int32) (I6 : Nat → Nat → Int32) (J7 : Nat → Nat → Int64) (tg8 : Option Nat), Runs (GW L xs) d 177 (0, [.int a1, .int 1, .int ((1 <<< ((I 94 1) &&& 31)) - 1)], [], (zS I J tg)) ((some (.int v5)), (zS I6 J7 tg8)) ∧ (v5 = 0 ∨ v5 = 1) ∧ r = (some (.int v5), (zS I6 J7 tg8)))) : Runs (GW L xs) (d + 1) 260 (0, [.ref 93, .int a1], [], (zS I J tg)) r := by
  refine Runs.sN 10 (c' := (12, [.ref 93, .int a1], [.int ((1 <<< ((I 94 1) &&& 31)) - 1), .int 1, .int a1], (zS I J tg))) rfl ?_
  obtain ⟨v5, I6, J7, tg8, c9, h⟩ := h
  refine Runs.cl (cm := 177) (as := [.int a1, .int 1, .int ((1 <<< ((I 94 1) &&& 31)) - 1)]) (rest := []) (r1 := ((some (.int v5)), (zS I6 J7 tg8))) rfl (Nat.le_of_ble_eq_true rfl) c9 ?_
  refine Runs.as (c' := (15, [.ref 93, .int a1], [.int v5], (zS I6 J7 tg8))) rfl ?_
  obtain ⟨h0, h⟩ := h
  subst h
  exact Runs.zrt rfl rfl h0
-- X12_least 
theorem sg_261 {L d : Nat} {xs : Nat → Int32} (I : Nat → Nat → Int32) (J : Nat → Nat → Int64) (tg : Option Nat) (a1 : Int32) (a2 : Int32) {r : Option Value × SS} (h : (∃ (v41 : Int32) (I42 : Nat → Nat → Int32) (J43 : Nat → Nat → Int64) (tg44 : Option Nat), Runs (GW L xs) d 260 (0, [.ref 93, .int a1], [], (zS I J tg)) ((some (.int v41)), (zS I42 J43 tg44)) ∧ (if v41 = 0 then (r = (some (.int (-1)), (zS I42 J43 tg44))) else (∃ (v45 : Int32) (I46 : Nat → Nat → Int32) (J47 : Nat → Nat → Int64) (tg48 : Option Nat), Runs (GW L xs) d 185 (0, [.int a1, vU, vU], [], (zS I42 J43 tg44)) ((some (.int v45)), (zS I46 J47 tg48)) ∧ (if v45 < 2 then (r = (some (.int (-1)), (zS I46 J47 tg48))) else (∃ (v49 : Int32) (I50 : Nat → Nat → Int32) (J51 : Nat → Nat → Int64) (tg52 : Option Nat), Runs (GW L xs) d 177 (0, [.int a2, .int 0, .int 2], [], (zS I46 J47 tg48)) ((some (.int v49)), (zS I50 J51 tg52)) ∧ (if v49 = 0 then (r = (some (.int (-1)), (zS I50 J51 tg52))) else (Runs (GW L xs) (d + 1) 261 (38, [.ref 93, .int a1, .int a2, .int (-1), .int (-1), .int 0, .int 0, vU, vU], [], (zS I50 J51 tg52)) r)))))))) : Runs (GW L xs) (d + 1) 261 (0, [.ref 93, .int a1, .int a2, vU, vU, vU, vU, vU, vU], [], (zS I J tg)) r := by
  refine Runs.sN 2 (c' := (2, [.ref 93, .int a1, .int a2, vU, vU, vU, vU, vU, vU], [.int a1, .ref 93], (zS I J tg))) rfl ?_
  obtain ⟨v41, I42, J43, tg44, c53, h⟩ := h
  refine Runs.cl (cm := 260) (as := [.ref 93, .int a1]) (rest := []) (r1 := ((some (.int v41)), (zS I42 J43 tg44))) rfl (Nat.le_of_ble_eq_true rfl) c53 ?_
  refine Runs.as (c' := (5, [.ref 93, .int a1, .int a2, vU, vU, vU, vU, vU, vU], [.int v41], (zS I42 J43 tg44))) rfl ?_
  by_cases c54 : v41 = 0
  · rw [if_pos c54] at h
    refine Runs.brT (P := v41 = 0) (a := 25) (b := 8) (L := [.ref 93, .int a1, .int a2, vU, vU, vU, vU, vU, vU]) (S := []) (z := (zS I42 J43 tg44)) rfl c54 ?_
    refine Runs.sN 1 (c' := (26, [.ref 93, .int a1, .int a2, vU, vU, vU, vU, vU, vU], [.int (-1)], (zS I42 J43 tg44))) rfl ?_
    subst h
    exact Runs.rt rfl
  · rw [if_neg c54] at h
    refine Runs.brF (P := v41 = 0) (a := 25) (b := 8) (L := [.ref 93, .int a1, .int a2, vU, vU, vU, vU, vU, vU]) (S := []) (z := (zS I42 J43 tg44)) rfl c54 ?_
    refine Runs.sN 1 (c' := (9, [.ref 93, .int a1, .int a2, vU, vU, vU, vU, vU, vU], [.int a1], (zS I42 J43 tg44))) rfl ?_
    obtain ⟨v45, I46, J47, tg48, c55, h⟩ := h
    refine Runs.cl (cm := 185) (as := [.int a1]) (rest := []) (r1 := ((some (.int v45)), (zS I46 J47 tg48))) rfl (Nat.le_of_ble_eq_true rfl) c55 ?_
    refine Runs.as (c' := (12, [.ref 93, .int a1, .int a2, vU, vU, vU, vU, vU, vU], [.int v45], (zS I46 J47 tg48))) rfl ?_
    refine Runs.sN 1 (c' := (13, [.ref 93, .int a1, .int a2, vU, vU, vU, vU, vU, vU], [.int 2, .int v45], (zS I46 J47 tg48))) rfl ?_
    by_cases c56 : v45 < 2
    · rw [if_pos c56] at h
      refine Runs.brT (P := v45 < 2) (a := 25) (b := 16) (L := [.ref 93, .int a1, .int a2, vU, vU, vU, vU, vU, vU]) (S := []) (z := (zS I46 J47 tg48)) rfl c56 ?_
      refine Runs.sN 1 (c' := (26, [.ref 93, .int a1, .int a2, vU, vU, vU, vU, vU, vU], [.int (-1)], (zS I46 J47 tg48))) rfl ?_
      subst h
      exact Runs.rt rfl
    · rw [if_neg c56] at h
      refine Runs.brF (P := v45 < 2) (a := 25) (b := 16) (L := [.ref 93, .int a1, .int a2, vU, vU, vU, vU, vU, vU]) (S := []) (z := (zS I46 J47 tg48)) rfl c56 ?_
      refine Runs.sN 3 (c' := (19, [.ref 93, .int a1, .int a2, vU, vU, vU, vU, vU, vU], [.int 2, .int 0, .int a2], (zS I46 J47 tg48))) rfl ?_
      obtain ⟨v49, I50, J51, tg52, c57, h⟩ := h
      refine Runs.cl (cm := 177) (as := [.int a2, .int 0, .int 2]) (rest := []) (r1 := ((some (.int v49)), (zS I50 J51 tg52))) rfl (Nat.le_of_ble_eq_true rfl) c57 ?_
      refine Runs.as (c' := (22, [.ref 93, .int a1, .int a2, vU, vU, vU, vU, vU, vU], [.int v49], (zS I50 J51 tg52))) rfl ?_
      by_cases c58 : v49 = 0
      · rw [if_pos c58] at h
        refine Runs.brT (P := v49 = 0) (a := 25) (b := 27) (L := [.ref 93, .int a1, .int a2, vU, vU, vU, vU, vU, vU]) (S := []) (z := (zS I50 J51 tg52)) rfl c58 ?_
        refine Runs.sN 1 (c' := (26, [.ref 93, .int a1, .int a2, vU, vU, vU, vU, vU, vU], [.int (-1)], (zS I50 J51 tg52))) rfl ?_
        subst h
        exact Runs.rt rfl
      · rw [if_neg c58] at h
        refine Runs.brF (P := v49 = 0) (a := 25) (b := 27) (L := [.ref 93, .int a1, .int a2, vU, vU, vU, vU, vU, vU]) (S := []) (z := (zS I50 J51 tg52)) rfl c58 ?_
        refine Runs.sN 8 (c' := (38, [.ref 93, .int a1, .int a2, .int (-1), .int (-1), .int 0, .int 0, vU, vU], [], (zS I50 J51 tg52))) rfl ?_
        exact h
theorem sg_261_38 {L d : Nat} {xs : Nat → Int32} (I : Nat → Nat → Int32) (J : Nat → Nat → Int64) (tg : Option Nat) (x1 : Int32) (x2 : Int32) (x3 : Int32) (x4 : Int32) (x5 : Int32) (x6 : Int32) {r : Option Value × SS} (h : ((if 12 ≤ x6 then ((if x2 = 0 then (r = (some (.int x5), (zS I J tg))) else ((if x2 = 1 then (r = (some (.int x3), (zS I J tg))) else (r = (some (.int x4), (zS I J tg))))))) else (Runs (GW L xs) (d + 1) 261 (51, [.ref 93, .int x1, .int x2, .int x3, .int x4, .int x5, .int x6, .int (x6 + 1), vU], [], (zS I J tg)) r)))) : Runs (GW L xs) (d + 1) 261 (38, [.ref 93, .int x1, .int x2, .int x3, .int x4, .int x5, .int x6, vU, vU], [], (zS I J tg)) r := by
  refine Runs.sN 2 (c' := (42, [.ref 93, .int x1, .int x2, .int x3, .int x4, .int x5, .int x6, vU, vU], [.int 12, .int x6], (zS I J tg))) rfl ?_
  by_cases c1 : 12 ≤ x6
  · rw [if_pos c1] at h
    refine Runs.brT (P := 12 ≤ x6) (a := 126) (b := 45) (L := [.ref 93, .int x1, .int x2, .int x3, .int x4, .int x5, .int x6, vU, vU]) (S := []) (z := (zS I J tg)) rfl c1 ?_
    refine Runs.sN 1 (c' := (127, [.ref 93, .int x1, .int x2, .int x3, .int x4, .int x5, .int x6, vU, vU], [.int x2], (zS I J tg))) rfl ?_
    by_cases c2 : x2 = 0
    · rw [if_pos c2] at h
      refine Runs.brT (P := x2 = 0) (a := 130) (b := 135) (L := [.ref 93, .int x1, .int x2, .int x3, .int x4, .int x5, .int x6, vU, vU]) (S := []) (z := (zS I J tg)) rfl c2 ?_
      refine Runs.sN 2 (c' := (146, [.ref 93, .int x1, .int x2, .int x3, .int x4, .int x5, .int x6, vU, vU], [.int x5], (zS I J tg))) rfl ?_
      subst h
      exact Runs.rt rfl
    · rw [if_neg c2] at h
      refine Runs.brF (P := x2 = 0) (a := 130) (b := 135) (L := [.ref 93, .int x1, .int x2, .int x3, .int x4, .int x5, .int x6, vU, vU]) (S := []) (z := (zS I J tg)) rfl c2 ?_
      refine Runs.sN 2 (c' := (137, [.ref 93, .int x1, .int x2, .int x3, .int x4, .int x5, .int x6, vU, vU], [.int 1, .int x2], (zS I J tg))) rfl ?_
      by_cases c3 : x2 = 1
      · rw [if_pos c3] at h
        refine Runs.brT (P := x2 = 1) (a := 140) (b := 144) (L := [.ref 93, .int x1, .int x2, .int x3, .int x4, .int x5, .int x6, vU, vU]) (S := []) (z := (zS I J tg)) rfl c3 ?_
        refine Runs.sN 2 (c' := (146, [.ref 93, .int x1, .int x2, .int x3, .int x4, .int x5, .int x6, vU, vU], [.int x3], (zS I J tg))) rfl ?_
        subst h
        exact Runs.rt rfl
      · rw [if_neg c3] at h
        refine Runs.brF (P := x2 = 1) (a := 140) (b := 144) (L := [.ref 93, .int x1, .int x2, .int x3, .int x4, .int x5, .int x6, vU, vU]) (S := []) (z := (zS I J tg)) rfl c3 ?_
        refine Runs.sN 1 (c' := (146, [.ref 93, .int x1, .int x2, .int x3, .int x4, .int x5, .int x6, vU, vU], [.int x4], (zS I J tg))) rfl ?_
        subst h
        exact Runs.rt rfl
  · rw [if_neg c1] at h
    refine Runs.brF (P := 12 ≤ x6) (a := 126) (b := 45) (L := [.ref 93, .int x1, .int x2, .int x3, .int x4, .int x5, .int x6, vU, vU]) (S := []) (z := (zS I J tg)) rfl c1 ?_
    refine Runs.sN 4 (c' := (51, [.ref 93, .int x1, .int x2, .int x3, .int x4, .int x5, .int x6, .int (x6 + 1), vU], [], (zS I J tg))) rfl ?_
    exact h
theorem sg_261_51 {L d : Nat} {xs : Nat → Int32} (I : Nat → Nat → Int32) (J : Nat → Nat → Int64) (tg : Option Nat) (x1 : Int32) (x2 : Int32) (x3 : Int32) (x4 : Int32) (x5 : Int32) (x6 : Int32) (x7 : Int32) {r : Option Value × SS} (h : ((if 12 ≤ x7 then (Runs (GW L xs) (d + 1) 261 (38, [.ref 93, .int x1, .int x2, .int x3, .int x4, .int x5, .int (x6 + 1), vU, vU], [], (zS I J tg)) r) else ((if ((x1 >>> (x6 &&& 31)) &&& 1) = 0 then (Runs (GW L xs) (d + 1) 261 (51, [.ref 93, .int x1, .int x2, .int x3, .int x4, .int x5, .int x6, .int (x7 + 1), vU], [], (zS I J tg)) r) else ((if ((x1 >>> (x7 &&& 31)) &&& 1) = 0 then (Runs (GW L xs) (d + 1) 261 (51, [.ref 93, .int x1, .int x2, .int x3, .int x4, .int x5, .int x6, .int (x7 + 1), vU], [], (zS I J tg)) r) else (∃ (v1 : Int32) (I2 : Nat → Nat → Int32) (J3 : Nat → Nat → Int64) (tg4 : Option Nat), Runs (GW L xs) d 197 (0, [.ref 93, .int x6, .int x7, vU, vU, vU, vU, vU, vU, vU], [], (zS I J tg)) ((some (.int v1)), (zS I2 J3 tg4)) ∧ (if x3 < 0 then (Runs (GW L xs) (d + 1) 261 (51, [.ref 93, .int x1, .int x2, .int x6, .int x7, .int v1, .int x6, .int (x7 + 1), vU], [], (zS I2 J3 tg4)) r) else ((if v1 < x5 then (Runs (GW L xs) (d + 1) 261 (51, [.ref 93, .int x1, .int x2, .int x6, .int x7, .int v1, .int x6, .int (x7 + 1), vU], [], (zS I2 J3 tg4)) r) else (Runs (GW L xs) (d + 1) 261 (51, [.ref 93, .int x1, .int x2, .int x3, .int x4, .int x5, .int x6, .int (x7 + 1), vU], [], (zS I2 J3 tg4)) r)))))))))))) : Runs (GW L xs) (d + 1) 261 (51, [.ref 93, .int x1, .int x2, .int x3, .int x4, .int x5, .int x6, .int x7, vU], [], (zS I J tg)) r := by
  refine Runs.sN 2 (c' := (55, [.ref 93, .int x1, .int x2, .int x3, .int x4, .int x5, .int x6, .int x7, vU], [.int 12, .int x7], (zS I J tg))) rfl ?_
  by_cases c5 : 12 ≤ x7
  · rw [if_pos c5] at h
    refine Runs.brT (P := 12 ≤ x7) (a := 120) (b := 58) (L := [.ref 93, .int x1, .int x2, .int x3, .int x4, .int x5, .int x6, .int x7, vU]) (S := []) (z := (zS I J tg)) rfl c5 ?_
    refine Runs.sN 2 (c' := (38, [.ref 93, .int x1, .int x2, .int x3, .int x4, .int x5, .int (x6 + 1), .int x7, vU], [], (zS I J tg))) rfl ?_
    exact Runs.weak (L := [.ref 93, .int x1, .int x2, .int x3, .int x4, .int x5, .int (x6 + 1), vU, vU]) (Lle.k (Lle.k (Lle.k (Lle.k (Lle.k (Lle.k (Lle.k (Lle.u (Lle.k Lle.n))))))))) h
  · rw [if_neg c5] at h
    refine Runs.brF (P := 12 ≤ x7) (a := 120) (b := 58) (L := [.ref 93, .int x1, .int x2, .int x3, .int x4, .int x5, .int x6, .int x7, vU]) (S := []) (z := (zS I J tg)) rfl c5 ?_
    refine Runs.sN 5 (c' := (64, [.ref 93, .int x1, .int x2, .int x3, .int x4, .int x5, .int x6, .int x7, vU], [.int ((x1 >>> (x6 &&& 31)) &&& 1)], (zS I J tg))) rfl ?_
    by_cases c6 : ((x1 >>> (x6 &&& 31)) &&& 1) = 0
    · rw [if_pos c6] at h
      refine Runs.brT (P := ((x1 >>> (x6 &&& 31)) &&& 1) = 0) (a := 114) (b := 67) (L := [.ref 93, .int x1, .int x2, .int x3, .int x4, .int x5, .int x6, .int x7, vU]) (S := []) (z := (zS I J tg)) rfl c6 ?_
      refine Runs.sN 2 (c' := (51, [.ref 93, .int x1, .int x2, .int x3, .int x4, .int x5, .int x6, .int (x7 + 1), vU], [], (zS I J tg))) rfl ?_
      exact h
    · rw [if_neg c6] at h
      refine Runs.brF (P := ((x1 >>> (x6 &&& 31)) &&& 1) = 0) (a := 114) (b := 67) (L := [.ref 93, .int x1, .int x2, .int x3, .int x4, .int x5, .int x6, .int x7, vU]) (S := []) (z := (zS I J tg)) rfl c6 ?_
      refine Runs.sN 5 (c' := (73, [.ref 93, .int x1, .int x2, .int x3, .int x4, .int x5, .int x6, .int x7, vU], [.int ((x1 >>> (x7 &&& 31)) &&& 1)], (zS I J tg))) rfl ?_
      by_cases c7 : ((x1 >>> (x7 &&& 31)) &&& 1) = 0
      · rw [if_pos c7] at h
        refine Runs.brT (P := ((x1 >>> (x7 &&& 31)) &&& 1) = 0) (a := 76) (b := 79) (L := [.ref 93, .int x1, .int x2, .int x3, .int x4, .int x5, .int x6, .int x7, vU]) (S := []) (z := (zS I J tg)) rfl c7 ?_
        refine Runs.sN 3 (c' := (51, [.ref 93, .int x1, .int x2, .int x3, .int x4, .int x5, .int x6, .int (x7 + 1), vU], [], (zS I J tg))) rfl ?_
        exact h
      · rw [if_neg c7] at h
        refine Runs.brF (P := ((x1 >>> (x7 &&& 31)) &&& 1) = 0) (a := 76) (b := 79) (L := [.ref 93, .int x1, .int x2, .int x3, .int x4, .int x5, .int x6, .int x7, vU]) (S := []) (z := (zS I J tg)) rfl c7 ?_
        refine Runs.sN 3 (c' := (84, [.ref 93, .int x1, .int x2, .int x3, .int x4, .int x5, .int x6, .int x7, vU], [.int x7, .int x6, .ref 93], (zS I J tg))) rfl ?_
        obtain ⟨v1, I2, J3, tg4, c8, h⟩ := h
        refine Runs.cl (cm := 197) (as := [.ref 93, .int x6, .int x7]) (rest := []) (r1 := ((some (.int v1)), (zS I2 J3 tg4))) rfl (Nat.le_of_ble_eq_true rfl) c8 ?_
        refine Runs.as (c' := (87, [.ref 93, .int x1, .int x2, .int x3, .int x4, .int x5, .int x6, .int x7, vU], [.int v1], (zS I2 J3 tg4))) rfl ?_
        refine Runs.sN 2 (c' := (90, [.ref 93, .int x1, .int x2, .int x3, .int x4, .int x5, .int x6, .int x7, .int v1], [.int x3], (zS I2 J3 tg4))) rfl ?_
        by_cases c9 : x3 < 0
        · rw [if_pos c9] at h
          refine Runs.brT (P := x3 < 0) (a := 103) (b := 93) (L := [.ref 93, .int x1, .int x2, .int x3, .int x4, .int x5, .int x6, .int x7, .int v1]) (S := []) (z := (zS I2 J3 tg4)) rfl c9 ?_
          refine Runs.sN 8 (c' := (51, [.ref 93, .int x1, .int x2, .int x6, .int x7, .int v1, .int x6, .int (x7 + 1), .int v1], [], (zS I2 J3 tg4))) rfl ?_
          exact Runs.weak (L := [.ref 93, .int x1, .int x2, .int x6, .int x7, .int v1, .int x6, .int (x7 + 1), vU]) (Lle.k (Lle.k (Lle.k (Lle.k (Lle.k (Lle.k (Lle.k (Lle.k (Lle.u Lle.n))))))))) h
        · rw [if_neg c9] at h
          refine Runs.brF (P := x3 < 0) (a := 103) (b := 93) (L := [.ref 93, .int x1, .int x2, .int x3, .int x4, .int x5, .int x6, .int x7, .int v1]) (S := []) (z := (zS I2 J3 tg4)) rfl c9 ?_
          refine Runs.sN 2 (c' := (97, [.ref 93, .int x1, .int x2, .int x3, .int x4, .int x5, .int x6, .int x7, .int v1], [.int x5, .int v1], (zS I2 J3 tg4))) rfl ?_
          by_cases c10 : v1 < x5
          · rw [if_pos c10] at h
            refine Runs.brT (P := v1 < x5) (a := 103) (b := 100) (L := [.ref 93, .int x1, .int x2, .int x3, .int x4, .int x5, .int x6, .int x7, .int v1]) (S := []) (z := (zS I2 J3 tg4)) rfl c10 ?_
            refine Runs.sN 8 (c' := (51, [.ref 93, .int x1, .int x2, .int x6, .int x7, .int v1, .int x6, .int (x7 + 1), .int v1], [], (zS I2 J3 tg4))) rfl ?_
            exact Runs.weak (L := [.ref 93, .int x1, .int x2, .int x6, .int x7, .int v1, .int x6, .int (x7 + 1), vU]) (Lle.k (Lle.k (Lle.k (Lle.k (Lle.k (Lle.k (Lle.k (Lle.k (Lle.u Lle.n))))))))) h
          · rw [if_neg c10] at h
            refine Runs.brF (P := v1 < x5) (a := 103) (b := 100) (L := [.ref 93, .int x1, .int x2, .int x3, .int x4, .int x5, .int x6, .int x7, .int v1]) (S := []) (z := (zS I2 J3 tg4)) rfl c10 ?_
            refine Runs.sN 3 (c' := (51, [.ref 93, .int x1, .int x2, .int x3, .int x4, .int x5, .int x6, .int (x7 + 1), .int v1], [], (zS I2 J3 tg4))) rfl ?_
            exact Runs.weak (L := [.ref 93, .int x1, .int x2, .int x3, .int x4, .int x5, .int x6, .int (x7 + 1), vU]) (Lle.k (Lle.k (Lle.k (Lle.k (Lle.k (Lle.k (Lle.k (Lle.k (Lle.u Lle.n))))))))) h
-- X12_candidate 
theorem sg_262 {L d : Nat} {xs : Nat → Int32} (I : Nat → Nat → Int32) (J : Nat → Nat → Int64) (tg : Option Nat) (a1 : Int32) (a2 : Int32) {r : Option Value × SS} (h : (∃ (v17 : Int32) (I18 : Nat → Nat → Int32) (J19 : Nat → Nat → Int64) (tg20 : Option Nat), Runs (GW L xs) d 182 (0, [.int a1], [], (zS I J tg)) ((some (.int v17)), (zS I18 J19 tg20)) ∧ (if v17 = 0 then (r = (some (.int (-1)), (zS I18 J19 tg20))) else (∃ (v21 : Int32) (I22 : Nat → Nat → Int32) (J23 : Nat → Nat → Int64) (tg24 : Option Nat), Runs (GW L xs) d 179 (0, [.ref 93, .int a2], [], (zS I18 J19 tg20)) ((some (.int v21)), (zS I22 J23 tg24)) ∧ (if v21 = 0 then (r = (some (.int (-1)), (zS I22 J23 tg24))) else (¬ ((840 + a1) < 0 ∨ 1200 ≤ (840 + a1).toNatClampNeg) ∧ (if (I22 94 ((840 + a1).toNatClampNeg)) = 4 then (r = (some (.int (-1)), (zS I22 J23 tg24))) else (Runs (GW L xs) (d + 1) 262 (33, [.ref 93, .int a1, .int a2, .int 0], [], (zS I22 J23 tg24)) r)))))))) : Runs (GW L xs) (d + 1) 262 (0, [.ref 93, .int a1, .int a2, vU], [], (zS I J tg)) r := by
  refine Runs.sN 1 (c' := (1, [.ref 93, .int a1, .int a2, vU], [.int a1], (zS I J tg))) rfl ?_
  obtain ⟨v17, I18, J19, tg20, c25, h⟩ := h
  refine Runs.cl (cm := 182) (as := [.int a1]) (rest := []) (r1 := ((some (.int v17)), (zS I18 J19 tg20))) rfl (Nat.le_of_ble_eq_true rfl) c25 ?_
  refine Runs.as (c' := (4, [.ref 93, .int a1, .int a2, vU], [.int v17], (zS I18 J19 tg20))) rfl ?_
  by_cases c26 : v17 = 0
  · rw [if_pos c26] at h
    refine Runs.brT (P := v17 = 0) (a := 29) (b := 7) (L := [.ref 93, .int a1, .int a2, vU]) (S := []) (z := (zS I18 J19 tg20)) rfl c26 ?_
    refine Runs.sN 1 (c' := (30, [.ref 93, .int a1, .int a2, vU], [.int (-1)], (zS I18 J19 tg20))) rfl ?_
    subst h
    exact Runs.rt rfl
  · rw [if_neg c26] at h
    refine Runs.brF (P := v17 = 0) (a := 29) (b := 7) (L := [.ref 93, .int a1, .int a2, vU]) (S := []) (z := (zS I18 J19 tg20)) rfl c26 ?_
    refine Runs.sN 2 (c' := (9, [.ref 93, .int a1, .int a2, vU], [.int a2, .ref 93], (zS I18 J19 tg20))) rfl ?_
    obtain ⟨v21, I22, J23, tg24, c27, h⟩ := h
    refine Runs.cl (cm := 179) (as := [.ref 93, .int a2]) (rest := []) (r1 := ((some (.int v21)), (zS I22 J23 tg24))) rfl (Nat.le_of_ble_eq_true rfl) c27 ?_
    refine Runs.as (c' := (12, [.ref 93, .int a1, .int a2, vU], [.int v21], (zS I22 J23 tg24))) rfl ?_
    by_cases c28 : v21 = 0
    · rw [if_pos c28] at h
      refine Runs.brT (P := v21 = 0) (a := 29) (b := 15) (L := [.ref 93, .int a1, .int a2, vU]) (S := []) (z := (zS I22 J23 tg24)) rfl c28 ?_
      refine Runs.sN 1 (c' := (30, [.ref 93, .int a1, .int a2, vU], [.int (-1)], (zS I22 J23 tg24))) rfl ?_
      subst h
      exact Runs.rt rfl
    · rw [if_neg c28] at h
      refine Runs.brF (P := v21 = 0) (a := 29) (b := 15) (L := [.ref 93, .int a1, .int a2, vU]) (S := []) (z := (zS I22 J23 tg24)) rfl c28 ?_
      refine Runs.sN 5 (c' := (24, [.ref 93, .int a1, .int a2, vU], [.int (840 + a1), .ref 94], (zS I22 J23 tg24))) rfl ?_
      obtain ⟨c29, h⟩ := h
      refine Runs.to (c' := (25, [.ref 93, .int a1, .int a2, vU], [.int (I22 94 ((840 + a1).toNatClampNeg))], (zS I22 J23 tg24))) (Runs.ild rfl (show (94 : Nat) < 114 by decide) rfl c29) ?_
      refine Runs.sN 1 (c' := (26, [.ref 93, .int a1, .int a2, vU], [.int 4, .int (I22 94 ((840 + a1).toNatClampNeg))], (zS I22 J23 tg24))) rfl ?_
      by_cases c30 : (I22 94 ((840 + a1).toNatClampNeg)) = 4
      · rw [if_pos c30] at h
        refine Runs.brT (P := (I22 94 ((840 + a1).toNatClampNeg)) = 4) (a := 29) (b := 31) (L := [.ref 93, .int a1, .int a2, vU]) (S := []) (z := (zS I22 J23 tg24)) rfl c30 ?_
        refine Runs.sN 1 (c' := (30, [.ref 93, .int a1, .int a2, vU], [.int (-1)], (zS I22 J23 tg24))) rfl ?_
        subst h
        exact Runs.rt rfl
      · rw [if_neg c30] at h
        refine Runs.brF (P := (I22 94 ((840 + a1).toNatClampNeg)) = 4) (a := 29) (b := 31) (L := [.ref 93, .int a1, .int a2, vU]) (S := []) (z := (zS I22 J23 tg24)) rfl c30 ?_
        refine Runs.sN 2 (c' := (33, [.ref 93, .int a1, .int a2, .int 0], [], (zS I22 J23 tg24))) rfl ?_
        exact h
theorem sg_262_33 {L d : Nat} {xs : Nat → Int32} (I : Nat → Nat → Int32) (J : Nat → Nat → Int64) (tg : Option Nat) (x1 : Int32) (x2 : Int32) (x3 : Int32) {r : Option Value × SS} (h : (¬ ((840 + x1) < 0 ∨ 1200 ≤ (840 + x1).toNatClampNeg) ∧ (if (I 94 ((840 + x1).toNatClampNeg)) ≤ x3 then (¬ ((840 + x1) < 0 ∨ 1200 ≤ (840 + x1).toNatClampNeg) ∧ ¬ (((850 + (4 * x1)) + (I 94 ((840 + x1).toNatClampNeg))) < 0 ∨ 1200 ≤ ((850 + (4 * x1)) + (I 94 ((840 + x1).toNatClampNeg))).toNatClampNeg) ∧ ¬ ((840 + x1) < 0 ∨ 1200 ≤ (840 + x1).toNatClampNeg) ∧ ¬ ((840 + x1) < 0 ∨ 1200 ≤ (840 + x1).toNatClampNeg) ∧ ¬ ((840 + x1) < 0 ∨ 1200 ≤ (840 + x1).toNatClampNeg) ∧ r = (some (.int ((up2 (up2 I 94 (((850 + (4 * x1)) + (I 94 ((840 + x1).toNatClampNeg))).toNatClampNeg) x2) 94 ((840 + x1).toNatClampNeg) (((up2 I 94 (((850 + (4 * x1)) + (I 94 ((840 + x1).toNatClampNeg))).toNatClampNeg) x2) 94 ((840 + x1).toNatClampNeg)) + 1)) 94 ((840 + x1).toNatClampNeg))), (zS (up2 (up2 I 94 (((850 + (4 * x1)) + (I 94 ((840 + x1).toNatClampNeg))).toNatClampNeg) x2) 94 ((840 + x1).toNatClampNeg) (((up2 I 94 (((850 + (4 * x1)) + (I 94 ((840 + x1).toNatClampNeg))).toNatClampNeg) x2) 94 ((840 + x1).toNatClampNeg)) + 1)) J tg))) else (¬ (((850 + (4 * x1)) + x3) < 0 ∨ 1200 ≤ ((850 + (4 * x1)) + x3).toNatClampNeg) ∧ (if (I 94 (((850 + (4 * x1)) + x3).toNatClampNeg)) = x2 then (r = (some (.int (-1)), (zS I J tg))) else (Runs (GW L xs) (d + 1) 262 (33, [.ref 93, .int x1, .int x2, .int (x3 + 1)], [], (zS I J tg)) r)))))) : Runs (GW L xs) (d + 1) 262 (33, [.ref 93, .int x1, .int x2, .int x3], [], (zS I J tg)) r := by
  refine Runs.sN 6 (c' := (43, [.ref 93, .int x1, .int x2, .int x3], [.int (840 + x1), .ref 94, .int x3], (zS I J tg))) rfl ?_
  obtain ⟨c1, h⟩ := h
  refine Runs.to (c' := (44, [.ref 93, .int x1, .int x2, .int x3], [.int (I 94 ((840 + x1).toNatClampNeg)), .int x3], (zS I J tg))) (Runs.ild rfl (show (94 : Nat) < 114 by decide) rfl c1) ?_
  by_cases c2 : (I 94 ((840 + x1).toNatClampNeg)) ≤ x3
  · rw [if_pos c2] at h
    refine Runs.brT (P := (I 94 ((840 + x1).toNatClampNeg)) ≤ x3) (a := 73) (b := 47) (L := [.ref 93, .int x1, .int x2, .int x3]) (S := []) (z := (zS I J tg)) rfl c2 ?_
    refine Runs.sN 12 (c' := (93, [.ref 93, .int x1, .int x2, .int x3], [.int (840 + x1), .ref 94, .int (850 + (4 * x1)), .ref 94], (zS I J tg))) rfl ?_
    obtain ⟨c3, h⟩ := h
    refine Runs.to (c' := (94, [.ref 93, .int x1, .int x2, .int x3], [.int (I 94 ((840 + x1).toNatClampNeg)), .int (850 + (4 * x1)), .ref 94], (zS I J tg))) (Runs.ild rfl (show (94 : Nat) < 114 by decide) rfl c3) ?_
    refine Runs.sN 2 (c' := (96, [.ref 93, .int x1, .int x2, .int x3], [.int x2, .int ((850 + (4 * x1)) + (I 94 ((840 + x1).toNatClampNeg))), .ref 94], (zS I J tg))) rfl ?_
    obtain ⟨c4, h⟩ := h
    refine Runs.to (c' := (97, [.ref 93, .int x1, .int x2, .int x3], [], (zS (up2 I 94 (((850 + (4 * x1)) + (I 94 ((840 + x1).toNatClampNeg))).toNatClampNeg) x2) J tg))) (Runs.ist rfl (show (94 : Nat) < 114 by decide) rfl c4) ?_
    refine Runs.sN 6 (c' := (107, [.ref 93, .int x1, .int x2, .int x3], [.int (840 + x1), .ref 94, .int (840 + x1), .ref 94], (zS (up2 I 94 (((850 + (4 * x1)) + (I 94 ((840 + x1).toNatClampNeg))).toNatClampNeg) x2) J tg))) rfl ?_
    obtain ⟨c5, h⟩ := h
    refine Runs.to (c' := (108, [.ref 93, .int x1, .int x2, .int x3], [.int ((up2 I 94 (((850 + (4 * x1)) + (I 94 ((840 + x1).toNatClampNeg))).toNatClampNeg) x2) 94 ((840 + x1).toNatClampNeg)), .int (840 + x1), .ref 94], (zS (up2 I 94 (((850 + (4 * x1)) + (I 94 ((840 + x1).toNatClampNeg))).toNatClampNeg) x2) J tg))) (Runs.ild rfl (show (94 : Nat) < 114 by decide) rfl c5) ?_
    refine Runs.sN 2 (c' := (110, [.ref 93, .int x1, .int x2, .int x3], [.int (((up2 I 94 (((850 + (4 * x1)) + (I 94 ((840 + x1).toNatClampNeg))).toNatClampNeg) x2) 94 ((840 + x1).toNatClampNeg)) + 1), .int (840 + x1), .ref 94], (zS (up2 I 94 (((850 + (4 * x1)) + (I 94 ((840 + x1).toNatClampNeg))).toNatClampNeg) x2) J tg))) rfl ?_
    obtain ⟨c6, h⟩ := h
    refine Runs.to (c' := (111, [.ref 93, .int x1, .int x2, .int x3], [], (zS (up2 (up2 I 94 (((850 + (4 * x1)) + (I 94 ((840 + x1).toNatClampNeg))).toNatClampNeg) x2) 94 ((840 + x1).toNatClampNeg) (((up2 I 94 (((850 + (4 * x1)) + (I 94 ((840 + x1).toNatClampNeg))).toNatClampNeg) x2) 94 ((840 + x1).toNatClampNeg)) + 1)) J tg))) (Runs.ist rfl (show (94 : Nat) < 114 by decide) rfl c6) ?_
    refine Runs.sN 5 (c' := (120, [.ref 93, .int x1, .int x2, .int x3], [.int (840 + x1), .ref 94], (zS (up2 (up2 I 94 (((850 + (4 * x1)) + (I 94 ((840 + x1).toNatClampNeg))).toNatClampNeg) x2) 94 ((840 + x1).toNatClampNeg) (((up2 I 94 (((850 + (4 * x1)) + (I 94 ((840 + x1).toNatClampNeg))).toNatClampNeg) x2) 94 ((840 + x1).toNatClampNeg)) + 1)) J tg))) rfl ?_
    obtain ⟨c7, h⟩ := h
    refine Runs.to (c' := (121, [.ref 93, .int x1, .int x2, .int x3], [.int ((up2 (up2 I 94 (((850 + (4 * x1)) + (I 94 ((840 + x1).toNatClampNeg))).toNatClampNeg) x2) 94 ((840 + x1).toNatClampNeg) (((up2 I 94 (((850 + (4 * x1)) + (I 94 ((840 + x1).toNatClampNeg))).toNatClampNeg) x2) 94 ((840 + x1).toNatClampNeg)) + 1)) 94 ((840 + x1).toNatClampNeg))], (zS (up2 (up2 I 94 (((850 + (4 * x1)) + (I 94 ((840 + x1).toNatClampNeg))).toNatClampNeg) x2) 94 ((840 + x1).toNatClampNeg) (((up2 I 94 (((850 + (4 * x1)) + (I 94 ((840 + x1).toNatClampNeg))).toNatClampNeg) x2) 94 ((840 + x1).toNatClampNeg)) + 1)) J tg))) (Runs.ild rfl (show (94 : Nat) < 114 by decide) rfl c7) ?_
    subst h
    exact Runs.rt rfl
  · rw [if_neg c2] at h
    refine Runs.brF (P := (I 94 ((840 + x1).toNatClampNeg)) ≤ x3) (a := 73) (b := 47) (L := [.ref 93, .int x1, .int x2, .int x3]) (S := []) (z := (zS I J tg)) rfl c2 ?_
    refine Runs.sN 9 (c' := (60, [.ref 93, .int x1, .int x2, .int x3], [.int ((850 + (4 * x1)) + x3), .ref 94], (zS I J tg))) rfl ?_
    obtain ⟨c8, h⟩ := h
    refine Runs.to (c' := (61, [.ref 93, .int x1, .int x2, .int x3], [.int (I 94 (((850 + (4 * x1)) + x3).toNatClampNeg))], (zS I J tg))) (Runs.ild rfl (show (94 : Nat) < 114 by decide) rfl c8) ?_
    refine Runs.sN 1 (c' := (62, [.ref 93, .int x1, .int x2, .int x3], [.int x2, .int (I 94 (((850 + (4 * x1)) + x3).toNatClampNeg))], (zS I J tg))) rfl ?_
    by_cases c9 : (I 94 (((850 + (4 * x1)) + x3).toNatClampNeg)) = x2
    · rw [if_pos c9] at h
      refine Runs.brT (P := (I 94 (((850 + (4 * x1)) + x3).toNatClampNeg)) = x2) (a := 65) (b := 67) (L := [.ref 93, .int x1, .int x2, .int x3]) (S := []) (z := (zS I J tg)) rfl c9 ?_
      refine Runs.sN 1 (c' := (66, [.ref 93, .int x1, .int x2, .int x3], [.int (-1)], (zS I J tg))) rfl ?_
      subst h
      exact Runs.rt rfl
    · rw [if_neg c9] at h
      refine Runs.brF (P := (I 94 (((850 + (4 * x1)) + x3).toNatClampNeg)) = x2) (a := 65) (b := 67) (L := [.ref 93, .int x1, .int x2, .int x3]) (S := []) (z := (zS I J tg)) rfl c9 ?_
      refine Runs.sN 2 (c' := (33, [.ref 93, .int x1, .int x2, .int (x3 + 1)], [], (zS I J tg))) rfl ?_
      exact h
-- X12_slots 
theorem sg_263 {L d : Nat} {xs : Nat → Int32} (I : Nat → Nat → Int32) (J : Nat → Nat → Int64) (tg : Option Nat) (a1 : Int32) {r : Option Value × SS} (h : (Runs (GW L xs) d 263 (4, [.ref 93, .int a1, .int 0, .int 0], [], (zS I J tg)) r)) : Runs (GW L xs) d 263 (0, [.ref 93, .int a1, vU, vU], [], (zS I J tg)) r := by
  refine Runs.sN 4 (c' := (4, [.ref 93, .int a1, .int 0, .int 0], [], (zS I J tg))) rfl ?_
  exact h
theorem sg_263_4 {L d : Nat} {xs : Nat → Int32} (I : Nat → Nat → Int32) (J : Nat → Nat → Int64) (tg : Option Nat) (x1 : Int32) (x2 : Int32) (x3 : Int32) {r : Option Value × SS} (h : ((if x1 < x3 then (r = (some (.int x2), (zS I J tg))) else (¬ ((840 + x3) < 0 ∨ 1200 ≤ (840 + x3).toNatClampNeg) ∧ (if (I 94 ((840 + x3).toNatClampNeg)) ≤ 0 then (Runs (GW L xs) d 263 (4, [.ref 93, .int x1, .int (x2 + 0), .int (x3 + 1)], [], (zS I J tg)) r) else (Runs (GW L xs) d 263 (4, [.ref 93, .int x1, .int (x2 + 1), .int (x3 + 1)], [], (zS I J tg)) r)))))) : Runs (GW L xs) d 263 (4, [.ref 93, .int x1, .int x2, .int x3], [], (zS I J tg)) r := by
  refine Runs.sN 2 (c' := (6, [.ref 93, .int x1, .int x2, .int x3], [.int x1, .int x3], (zS I J tg))) rfl ?_
  by_cases c1 : x1 < x3
  · rw [if_pos c1] at h
    refine Runs.brT (P := x1 < x3) (a := 36) (b := 9) (L := [.ref 93, .int x1, .int x2, .int x3]) (S := []) (z := (zS I J tg)) rfl c1 ?_
    refine Runs.sN 1 (c' := (37, [.ref 93, .int x1, .int x2, .int x3], [.int x2], (zS I J tg))) rfl ?_
    subst h
    exact Runs.rt rfl
  · rw [if_neg c1] at h
    refine Runs.brF (P := x1 < x3) (a := 36) (b := 9) (L := [.ref 93, .int x1, .int x2, .int x3]) (S := []) (z := (zS I J tg)) rfl c1 ?_
    refine Runs.sN 6 (c' := (19, [.ref 93, .int x1, .int x2, .int x3], [.int (840 + x3), .ref 94, .int x2], (zS I J tg))) rfl ?_
    obtain ⟨c2, h⟩ := h
    refine Runs.to (c' := (20, [.ref 93, .int x1, .int x2, .int x3], [.int (I 94 ((840 + x3).toNatClampNeg)), .int x2], (zS I J tg))) (Runs.ild rfl (show (94 : Nat) < 114 by decide) rfl c2) ?_
    by_cases c3 : (I 94 ((840 + x3).toNatClampNeg)) ≤ 0
    · rw [if_pos c3] at h
      refine Runs.brT (P := (I 94 ((840 + x3).toNatClampNeg)) ≤ 0) (a := 27) (b := 23) (L := [.ref 93, .int x1, .int x2, .int x3]) (S := [.int x2]) (z := (zS I J tg)) rfl c3 ?_
      refine Runs.sN 5 (c' := (4, [.ref 93, .int x1, .int (x2 + 0), .int (x3 + 1)], [], (zS I J tg))) rfl ?_
      exact h
    · rw [if_neg c3] at h
      refine Runs.brF (P := (I 94 ((840 + x3).toNatClampNeg)) ≤ 0) (a := 27) (b := 23) (L := [.ref 93, .int x1, .int x2, .int x3]) (S := [.int x2]) (z := (zS I J tg)) rfl c3 ?_
      refine Runs.sN 6 (c' := (4, [.ref 93, .int x1, .int (x2 + 1), .int (x3 + 1)], [], (zS I J tg))) rfl ?_
      exact h
-- X12_drawingOf 
theorem sg_264 {L d : Nat} {xs : Nat → Int32} (I : Nat → Nat → Int32) (J : Nat → Nat → Int64) (tg : Option Nat) (a1 : Int32) {r : Option Value × SS} (h : (¬ (a1 < 0 ∨ 6 ≤ (a1).toNatClampNeg) ∧ ¬ (((850 + (4 * a1)) + (I 106 ((a1).toNatClampNeg))) < 0 ∨ 1200 ≤ ((850 + (4 * a1)) + (I 106 ((a1).toNatClampNeg))).toNatClampNeg) ∧ r = (some (.int (I 94 (((850 + (4 * a1)) + (I 106 ((a1).toNatClampNeg))).toNatClampNeg))), (zS I J tg)))) : Runs (GW L xs) d 264 (0, [.ref 93, .int a1], [], (zS I J tg)) r := by
  refine Runs.sN 10 (c' := (16, [.ref 93, .int a1], [.int a1, .ref 106, .int (850 + (4 * a1)), .ref 94], (zS I J tg))) rfl ?_
  obtain ⟨c1, h⟩ := h
  refine Runs.to (c' := (17, [.ref 93, .int a1], [.int (I 106 ((a1).toNatClampNeg)), .int (850 + (4 * a1)), .ref 94], (zS I J tg))) (Runs.ild rfl (show (106 : Nat) < 114 by decide) rfl c1) ?_
  refine Runs.sN 1 (c' := (18, [.ref 93, .int a1], [.int ((850 + (4 * a1)) + (I 106 ((a1).toNatClampNeg))), .ref 94], (zS I J tg))) rfl ?_
  obtain ⟨c2, h⟩ := h
  refine Runs.to (c' := (19, [.ref 93, .int a1], [.int (I 94 (((850 + (4 * a1)) + (I 106 ((a1).toNatClampNeg))).toNatClampNeg))], (zS I J tg))) (Runs.ild rfl (show (94 : Nat) < 114 by decide) rfl c2) ?_
  subst h
  exact Runs.rt rfl
-- X12_nextChoice 
theorem sg_265 {L d : Nat} {xs : Nat → Int32} (I : Nat → Nat → Int32) (J : Nat → Nat → Int64) (tg : Option Nat) (a1 : Int32) {r : Option Value × SS} (h : (Runs (GW L xs) d 265 (2, [.ref 93, .int a1, .int a1], [], (zS I J tg)) r)) : Runs (GW L xs) d 265 (0, [.ref 93, .int a1, vU], [], (zS I J tg)) r := by
  refine Runs.sN 2 (c' := (2, [.ref 93, .int a1, .int a1], [], (zS I J tg))) rfl ?_
  exact h
theorem sg_265_2 {L d : Nat} {xs : Nat → Int32} (I : Nat → Nat → Int32) (J : Nat → Nat → Int64) (tg : Option Nat) (x1 : Int32) (x2 : Int32) {r : Option Value × SS} (h : ((if x2 < 0 then (r = (some (.int 0), (zS I J tg))) else (¬ ((840 + x2) < 0 ∨ 1200 ≤ (840 + x2).toNatClampNeg) ∧ (if (I 94 ((840 + x2).toNatClampNeg)) = 0 then (Runs (GW L xs) d 265 (2, [.ref 93, .int x1, .int (x2 + (-1))], [], (zS I J tg)) r) else (¬ (x2 < 0 ∨ 6 ≤ (x2).toNatClampNeg) ∧ ¬ (x2 < 0 ∨ 6 ≤ (x2).toNatClampNeg) ∧ ¬ (x2 < 0 ∨ 6 ≤ (x2).toNatClampNeg) ∧ ¬ ((840 + x2) < 0 ∨ 1200 ≤ (840 + x2).toNatClampNeg) ∧ (if (I 94 ((840 + x2).toNatClampNeg)) ≤ ((up2 I 106 ((x2).toNatClampNeg) ((I 106 ((x2).toNatClampNeg)) + 1)) 106 ((x2).toNatClampNeg)) then (¬ (x2 < 0 ∨ 6 ≤ (x2).toNatClampNeg) ∧ Runs (GW L xs) d 265 (2, [.ref 93, .int x1, .int (x2 + (-1))], [], (zS (up2 (up2 I 106 ((x2).toNatClampNeg) ((I 106 ((x2).toNatClampNeg)) + 1)) 106 ((x2).toNatClampNeg) 0) J tg)) r) else (r = (some (.int 1), (zS (up2 I 106 ((x2).toNatClampNeg) ((I 106 ((x2).toNatClampNeg)) + 1)) J tg)))))))))) : Runs (GW L xs) d 265 (2, [.ref 93, .int x1, .int x2], [], (zS I J tg)) r := by
  refine Runs.sN 1 (c' := (3, [.ref 93, .int x1, .int x2], [.int x2], (zS I J tg))) rfl ?_
  by_cases c1 : x2 < 0
  · rw [if_pos c1] at h
    refine Runs.brT (P := x2 < 0) (a := 66) (b := 6) (L := [.ref 93, .int x1, .int x2]) (S := []) (z := (zS I J tg)) rfl c1 ?_
    refine Runs.sN 1 (c' := (67, [.ref 93, .int x1, .int x2], [.int 0], (zS I J tg))) rfl ?_
    subst h
    exact Runs.rt rfl
  · rw [if_neg c1] at h
    refine Runs.brF (P := x2 < 0) (a := 66) (b := 6) (L := [.ref 93, .int x1, .int x2]) (S := []) (z := (zS I J tg)) rfl c1 ?_
    refine Runs.sN 5 (c' := (15, [.ref 93, .int x1, .int x2], [.int (840 + x2), .ref 94], (zS I J tg))) rfl ?_
    obtain ⟨c2, h⟩ := h
    refine Runs.to (c' := (16, [.ref 93, .int x1, .int x2], [.int (I 94 ((840 + x2).toNatClampNeg))], (zS I J tg))) (Runs.ild rfl (show (94 : Nat) < 114 by decide) rfl c2) ?_
    by_cases c3 : (I 94 ((840 + x2).toNatClampNeg)) = 0
    · rw [if_pos c3] at h
      refine Runs.brT (P := (I 94 ((840 + x2).toNatClampNeg)) = 0) (a := 19) (b := 22) (L := [.ref 93, .int x1, .int x2]) (S := []) (z := (zS I J tg)) rfl c3 ?_
      refine Runs.sN 3 (c' := (2, [.ref 93, .int x1, .int (x2 + (-1))], [], (zS I J tg))) rfl ?_
      exact h
    · rw [if_neg c3] at h
      refine Runs.brF (P := (I 94 ((840 + x2).toNatClampNeg)) = 0) (a := 19) (b := 22) (L := [.ref 93, .int x1, .int x2]) (S := []) (z := (zS I J tg)) rfl c3 ?_
      refine Runs.sN 4 (c' := (28, [.ref 93, .int x1, .int x2], [.int x2, .ref 106, .int x2, .ref 106], (zS I J tg))) rfl ?_
      obtain ⟨c4, h⟩ := h
      refine Runs.to (c' := (29, [.ref 93, .int x1, .int x2], [.int (I 106 ((x2).toNatClampNeg)), .int x2, .ref 106], (zS I J tg))) (Runs.ild rfl (show (106 : Nat) < 114 by decide) rfl c4) ?_
      refine Runs.sN 2 (c' := (31, [.ref 93, .int x1, .int x2], [.int ((I 106 ((x2).toNatClampNeg)) + 1), .int x2, .ref 106], (zS I J tg))) rfl ?_
      obtain ⟨c5, h⟩ := h
      refine Runs.to (c' := (32, [.ref 93, .int x1, .int x2], [], (zS (up2 I 106 ((x2).toNatClampNeg) ((I 106 ((x2).toNatClampNeg)) + 1)) J tg))) (Runs.ist rfl (show (106 : Nat) < 114 by decide) rfl c5) ?_
      refine Runs.sN 3 (c' := (37, [.ref 93, .int x1, .int x2], [.int x2, .ref 106], (zS (up2 I 106 ((x2).toNatClampNeg) ((I 106 ((x2).toNatClampNeg)) + 1)) J tg))) rfl ?_
      obtain ⟨c6, h⟩ := h
      refine Runs.to (c' := (38, [.ref 93, .int x1, .int x2], [.int ((up2 I 106 ((x2).toNatClampNeg) ((I 106 ((x2).toNatClampNeg)) + 1)) 106 ((x2).toNatClampNeg))], (zS (up2 I 106 ((x2).toNatClampNeg) ((I 106 ((x2).toNatClampNeg)) + 1)) J tg))) (Runs.ild rfl (show (106 : Nat) < 114 by decide) rfl c6) ?_
      refine Runs.sN 5 (c' := (47, [.ref 93, .int x1, .int x2], [.int (840 + x2), .ref 94, .int ((up2 I 106 ((x2).toNatClampNeg) ((I 106 ((x2).toNatClampNeg)) + 1)) 106 ((x2).toNatClampNeg))], (zS (up2 I 106 ((x2).toNatClampNeg) ((I 106 ((x2).toNatClampNeg)) + 1)) J tg))) rfl ?_
      obtain ⟨c7, h⟩ := h
      refine Runs.to (c' := (48, [.ref 93, .int x1, .int x2], [.int (I 94 ((840 + x2).toNatClampNeg)), .int ((up2 I 106 ((x2).toNatClampNeg) ((I 106 ((x2).toNatClampNeg)) + 1)) 106 ((x2).toNatClampNeg))], (zS (up2 I 106 ((x2).toNatClampNeg) ((I 106 ((x2).toNatClampNeg)) + 1)) J tg))) (Runs.ild rfl (show (94 : Nat) < 114 by decide) rfl c7) ?_
      by_cases c8 : (I 94 ((840 + x2).toNatClampNeg)) ≤ ((up2 I 106 ((x2).toNatClampNeg) ((I 106 ((x2).toNatClampNeg)) + 1)) 106 ((x2).toNatClampNeg))
      · rw [if_pos c8] at h
        refine Runs.brT (P := (I 94 ((840 + x2).toNatClampNeg)) ≤ ((up2 I 106 ((x2).toNatClampNeg) ((I 106 ((x2).toNatClampNeg)) + 1)) 106 ((x2).toNatClampNeg))) (a := 53) (b := 51) (L := [.ref 93, .int x1, .int x2]) (S := []) (z := (zS (up2 I 106 ((x2).toNatClampNeg) ((I 106 ((x2).toNatClampNeg)) + 1)) J tg)) rfl c8 ?_
        refine Runs.sN 4 (c' := (59, [.ref 93, .int x1, .int x2], [.int 0, .int x2, .ref 106], (zS (up2 I 106 ((x2).toNatClampNeg) ((I 106 ((x2).toNatClampNeg)) + 1)) J tg))) rfl ?_
        obtain ⟨c9, h⟩ := h
        refine Runs.to (c' := (60, [.ref 93, .int x1, .int x2], [], (zS (up2 (up2 I 106 ((x2).toNatClampNeg) ((I 106 ((x2).toNatClampNeg)) + 1)) 106 ((x2).toNatClampNeg) 0) J tg))) (Runs.ist rfl (show (106 : Nat) < 114 by decide) rfl c9) ?_
        refine Runs.sN 2 (c' := (2, [.ref 93, .int x1, .int (x2 + (-1))], [], (zS (up2 (up2 I 106 ((x2).toNatClampNeg) ((I 106 ((x2).toNatClampNeg)) + 1)) 106 ((x2).toNatClampNeg) 0) J tg))) rfl ?_
        exact h
      · rw [if_neg c8] at h
        refine Runs.brF (P := (I 94 ((840 + x2).toNatClampNeg)) ≤ ((up2 I 106 ((x2).toNatClampNeg) ((I 106 ((x2).toNatClampNeg)) + 1)) 106 ((x2).toNatClampNeg))) (a := 53) (b := 51) (L := [.ref 93, .int x1, .int x2]) (S := []) (z := (zS (up2 I 106 ((x2).toNatClampNeg) ((I 106 ((x2).toNatClampNeg)) + 1)) J tg)) rfl c8 ?_
        refine Runs.sN 1 (c' := (52, [.ref 93, .int x1, .int x2], [.int 1], (zS (up2 I 106 ((x2).toNatClampNeg) ((I 106 ((x2).toNatClampNeg)) + 1)) J tg))) rfl ?_
        subst h
        exact Runs.rt rfl
-- X12_choose 
theorem sg_266 {L d : Nat} {xs : Nat → Int32} (I : Nat → Nat → Int32) (J : Nat → Nat → Int64) (tg : Option Nat) (a1 : Int32) {r : Option Value × SS} (h : (Runs (GW L xs) (d + 1) 266 (2, [.ref 93, .int a1, .int 0, vU, vU, vU], [], (zS I J tg)) r)) : Runs (GW L xs) (d + 1) 266 (0, [.ref 93, .int a1, vU, vU, vU, vU], [], (zS I J tg)) r := by
  refine Runs.sN 2 (c' := (2, [.ref 93, .int a1, .int 0, vU, vU, vU], [], (zS I J tg))) rfl ?_
  exact h
theorem sg_266_2 {L d : Nat} {xs : Nat → Int32} (I : Nat → Nat → Int32) (J : Nat → Nat → Int64) (tg : Option Nat) (x1 : Int32) (x2 : Int32) {r : Option Value × SS} (h : ((if (I 94 1) ≤ x2 then (Runs (GW L xs) (d + 1) 266 (55, [.ref 93, .int x1, .int 0, vU, vU, vU], [], (zS I J tg)) r) else (Runs (GW L xs) (d + 1) 266 (14, [.ref 93, .int x1, .int x2, .int 0, vU, vU], [], (zS I J tg)) r)))) : Runs (GW L xs) (d + 1) 266 (2, [.ref 93, .int x1, .int x2, vU, vU, vU], [], (zS I J tg)) r := by
  refine Runs.sN 5 (c' := (9, [.ref 93, .int x1, .int x2, vU, vU, vU], [.int (I 94 1), .int x2], (zS I J tg))) rfl ?_
  by_cases c1 : (I 94 1) ≤ x2
  · rw [if_pos c1] at h
    refine Runs.brT (P := (I 94 1) ≤ x2) (a := 53) (b := 12) (L := [.ref 93, .int x1, .int x2, vU, vU, vU]) (S := []) (z := (zS I J tg)) rfl c1 ?_
    refine Runs.sN 2 (c' := (55, [.ref 93, .int x1, .int 0, vU, vU, vU], [], (zS I J tg))) rfl ?_
    exact h
  · rw [if_neg c1] at h
    refine Runs.brF (P := (I 94 1) ≤ x2) (a := 53) (b := 12) (L := [.ref 93, .int x1, .int x2, vU, vU, vU]) (S := []) (z := (zS I J tg)) rfl c1 ?_
    refine Runs.sN 2 (c' := (14, [.ref 93, .int x1, .int x2, .int 0, vU, vU], [], (zS I J tg))) rfl ?_
    exact h
theorem sg_266_14 {L d : Nat} {xs : Nat → Int32} (I : Nat → Nat → Int32) (J : Nat → Nat → Int64) (tg : Option Nat) (x1 : Int32) (x2 : Int32) (x3 : Int32) {r : Option Value × SS} (h : ((if (I 94 1) ≤ x3 then (Runs (GW L xs) (d + 1) 266 (2, [.ref 93, .int x1, .int (x2 + 1), vU, vU, vU], [], (zS I J tg)) r) else (∃ (v1 : Int32) (I2 : Nat → Nat → Int32) (J3 : Nat → Nat → Int64) (tg4 : Option Nat), Runs (GW L xs) d 197 (0, [.ref 93, .int x2, .int x3, vU, vU, vU, vU, vU, vU, vU], [], (zS I J tg)) ((some (.int v1)), (zS I2 J3 tg4)) ∧ ¬ (((12 * x2) + x3) < 0 ∨ 144 ≤ ((12 * x2) + x3).toNatClampNeg) ∧ Runs (GW L xs) (d + 1) 266 (14, [.ref 93, .int x1, .int x2, .int (x3 + 1), vU, vU], [], (zS (up2 I2 108 (((12 * x2) + x3).toNatClampNeg) v1) J3 tg4)) r)))) : Runs (GW L xs) (d + 1) 266 (14, [.ref 93, .int x1, .int x2, .int x3, vU, vU], [], (zS I J tg)) r := by
  refine Runs.sN 5 (c' := (21, [.ref 93, .int x1, .int x2, .int x3, vU, vU], [.int (I 94 1), .int x3], (zS I J tg))) rfl ?_
  by_cases c5 : (I 94 1) ≤ x3
  · rw [if_pos c5] at h
    refine Runs.brT (P := (I 94 1) ≤ x3) (a := 47) (b := 24) (L := [.ref 93, .int x1, .int x2, .int x3, vU, vU]) (S := []) (z := (zS I J tg)) rfl c5 ?_
    refine Runs.sN 2 (c' := (2, [.ref 93, .int x1, .int (x2 + 1), .int x3, vU, vU], [], (zS I J tg))) rfl ?_
    exact Runs.weak (L := [.ref 93, .int x1, .int (x2 + 1), vU, vU, vU]) (Lle.k (Lle.k (Lle.k (Lle.u (Lle.k (Lle.k Lle.n)))))) h
  · rw [if_neg c5] at h
    refine Runs.brF (P := (I 94 1) ≤ x3) (a := 47) (b := 24) (L := [.ref 93, .int x1, .int x2, .int x3, vU, vU]) (S := []) (z := (zS I J tg)) rfl c5 ?_
    refine Runs.sN 10 (c' := (37, [.ref 93, .int x1, .int x2, .int x3, vU, vU], [.int x3, .int x2, .ref 93, .int ((12 * x2) + x3), .ref 108], (zS I J tg))) rfl ?_
    obtain ⟨v1, I2, J3, tg4, c6, h⟩ := h
    refine Runs.cl (cm := 197) (as := [.ref 93, .int x2, .int x3]) (rest := [.int ((12 * x2) + x3), .ref 108]) (r1 := ((some (.int v1)), (zS I2 J3 tg4))) rfl (Nat.le_of_ble_eq_true rfl) c6 ?_
    refine Runs.as (c' := (40, [.ref 93, .int x1, .int x2, .int x3, vU, vU], [.int v1, .int ((12 * x2) + x3), .ref 108], (zS I2 J3 tg4))) rfl ?_
    obtain ⟨c7, h⟩ := h
    refine Runs.to (c' := (41, [.ref 93, .int x1, .int x2, .int x3, vU, vU], [], (zS (up2 I2 108 (((12 * x2) + x3).toNatClampNeg) v1) J3 tg4))) (Runs.ist rfl (show (108 : Nat) < 114 by decide) rfl c7) ?_
    refine Runs.sN 2 (c' := (14, [.ref 93, .int x1, .int x2, .int (x3 + 1), vU, vU], [], (zS (up2 I2 108 (((12 * x2) + x3).toNatClampNeg) v1) J3 tg4))) rfl ?_
    exact h
theorem sg_266_55 {L d : Nat} {xs : Nat → Int32} (I : Nat → Nat → Int32) (J : Nat → Nat → Int64) (tg : Option Nat) (x1 : Int32) (x2 : Int32) {r : Option Value × SS} (h : ((if 6 ≤ x2 then (Runs (GW L xs) (d + 1) 266 (81, [.ref 93, .int x1, .int 1, vU, vU, vU], [], (zS (up2 I 93 32 (-1)) J tg)) r) else (¬ (x2 < 0 ∨ 6 ≤ (x2).toNatClampNeg) ∧ Runs (GW L xs) (d + 1) 266 (55, [.ref 93, .int x1, .int (x2 + 1), vU, vU, vU], [], (zS (up2 I 106 ((x2).toNatClampNeg) 0) J tg)) r)))) : Runs (GW L xs) (d + 1) 266 (55, [.ref 93, .int x1, .int x2, vU, vU, vU], [], (zS I J tg)) r := by
  refine Runs.sN 2 (c' := (58, [.ref 93, .int x1, .int x2, vU, vU, vU], [.int 6, .int x2], (zS I J tg))) rfl ?_
  by_cases c1 : 6 ≤ x2
  · rw [if_pos c1] at h
    refine Runs.brT (P := 6 ≤ x2) (a := 74) (b := 61) (L := [.ref 93, .int x1, .int x2, vU, vU, vU]) (S := []) (z := (zS I J tg)) rfl c1 ?_
    refine Runs.sN 5 (c' := (81, [.ref 93, .int x1, .int 1, vU, vU, vU], [], (zS (up2 I 93 32 (-1)) J tg))) rfl ?_
    exact h
  · rw [if_neg c1] at h
    refine Runs.brF (P := 6 ≤ x2) (a := 74) (b := 61) (L := [.ref 93, .int x1, .int x2, vU, vU, vU]) (S := []) (z := (zS I J tg)) rfl c1 ?_
    refine Runs.sN 4 (c' := (67, [.ref 93, .int x1, .int x2, vU, vU, vU], [.int 0, .int x2, .ref 106], (zS I J tg))) rfl ?_
    obtain ⟨c2, h⟩ := h
    refine Runs.to (c' := (68, [.ref 93, .int x1, .int x2, vU, vU, vU], [], (zS (up2 I 106 ((x2).toNatClampNeg) 0) J tg))) (Runs.ist rfl (show (106 : Nat) < 114 by decide) rfl c2) ?_
    refine Runs.sN 2 (c' := (55, [.ref 93, .int x1, .int (x2 + 1), vU, vU, vU], [], (zS (up2 I 106 ((x2).toNatClampNeg) 0) J tg))) rfl ?_
    exact h
theorem sg_266_81 {L d : Nat} {xs : Nat → Int32} (I : Nat → Nat → Int32) (J : Nat → Nat → Int64) (tg : Option Nat) (x1 : Int32) (x2 : Int32) {r : Option Value × SS} (h : ((if x2 = 0 then (r = (none, (zS I J tg))) else (Runs (GW L xs) (d + 1) 266 (91, [.ref 93, .int x1, .int x2, .int 1000000, .int 0, vU], [], (zS I J tg)) r)))) : Runs (GW L xs) (d + 1) 266 (81, [.ref 93, .int x1, .int x2, vU, vU, vU], [], (zS I J tg)) r := by
  refine Runs.sN 1 (c' := (82, [.ref 93, .int x1, .int x2, vU, vU, vU], [.int x2], (zS I J tg))) rfl ?_
  by_cases c1 : x2 = 0
  · rw [if_pos c1] at h
    refine Runs.brT (P := x2 = 0) (a := 265) (b := 85) (L := [.ref 93, .int x1, .int x2, vU, vU, vU]) (S := []) (z := (zS I J tg)) rfl c1 ?_
    subst h
    exact Runs.rt rfl
  · rw [if_neg c1] at h
    refine Runs.brF (P := x2 = 0) (a := 265) (b := 85) (L := [.ref 93, .int x1, .int x2, vU, vU, vU]) (S := []) (z := (zS I J tg)) rfl c1 ?_
    refine Runs.sN 4 (c' := (91, [.ref 93, .int x1, .int x2, .int 1000000, .int 0, vU], [], (zS I J tg))) rfl ?_
    exact h
theorem sg_266_91 {L d : Nat} {xs : Nat → Int32} (I : Nat → Nat → Int32) (J : Nat → Nat → Int64) (tg : Option Nat) (x1 : Int32) (x2 : Int32) (x3 : Int32) (x4 : Int32) {r : Option Value × SS} (h : ((if x1 < x4 then ((if x3 ≤ (I 93 32) then (∃ (v1 : Int32) (I2 : Nat → Nat → Int32) (J3 : Nat → Nat → Int64) (tg4 : Option Nat), Runs (GW L xs) d 265 (0, [.ref 93, .int x1, vU], [], (zS I J tg)) ((some (.int v1)), (zS I2 J3 tg4)) ∧ Runs (GW L xs) (d + 1) 266 (81, [.ref 93, .int x1, .int v1, vU, vU, vU], [], (zS I2 J3 tg4)) r) else (Runs (GW L xs) (d + 1) 266 (212, [.ref 93, .int x1, .int x2, .int x3, .int 0, vU], [], (zS (up2 I 93 32 x3) J tg)) r))) else (Runs (GW L xs) (d + 1) 266 (103, [.ref 93, .int x1, .int x2, .int x3, .int x4, .int (x4 + 1)], [], (zS I J tg)) r)))) : Runs (GW L xs) (d + 1) 266 (91, [.ref 93, .int x1, .int x2, .int x3, .int x4, vU], [], (zS I J tg)) r := by
  refine Runs.sN 2 (c' := (94, [.ref 93, .int x1, .int x2, .int x3, .int x4, vU], [.int x1, .int x4], (zS I J tg))) rfl ?_
  by_cases c5 : x1 < x4
  · rw [if_pos c5] at h
    refine Runs.brT (P := x1 < x4) (a := 196) (b := 97) (L := [.ref 93, .int x1, .int x2, .int x3, .int x4, vU]) (S := []) (z := (zS I J tg)) rfl c5 ?_
    refine Runs.sN 3 (c' := (201, [.ref 93, .int x1, .int x2, .int x3, .int x4, vU], [.int (I 93 32), .int x3], (zS I J tg))) rfl ?_
    by_cases c6 : x3 ≤ (I 93 32)
    · rw [if_pos c6] at h
      refine Runs.brT (P := x3 ≤ (I 93 32)) (a := 256) (b := 204) (L := [.ref 93, .int x1, .int x2, .int x3, .int x4, vU]) (S := []) (z := (zS I J tg)) rfl c6 ?_
      refine Runs.sN 2 (c' := (258, [.ref 93, .int x1, .int x2, .int x3, .int x4, vU], [.int x1, .ref 93], (zS I J tg))) rfl ?_
      obtain ⟨v1, I2, J3, tg4, c7, h⟩ := h
      refine Runs.cl (cm := 265) (as := [.ref 93, .int x1]) (rest := []) (r1 := ((some (.int v1)), (zS I2 J3 tg4))) rfl (Nat.le_of_ble_eq_true rfl) c7 ?_
      refine Runs.as (c' := (261, [.ref 93, .int x1, .int x2, .int x3, .int x4, vU], [.int v1], (zS I2 J3 tg4))) rfl ?_
      refine Runs.sN 2 (c' := (81, [.ref 93, .int x1, .int v1, .int x3, .int x4, vU], [], (zS I2 J3 tg4))) rfl ?_
      exact Runs.weak (L := [.ref 93, .int x1, .int v1, vU, vU, vU]) (Lle.k (Lle.k (Lle.k (Lle.u (Lle.u (Lle.k Lle.n)))))) h
    · rw [if_neg c6] at h
      refine Runs.brF (P := x3 ≤ (I 93 32)) (a := 256) (b := 204) (L := [.ref 93, .int x1, .int x2, .int x3, .int x4, vU]) (S := []) (z := (zS I J tg)) rfl c6 ?_
      refine Runs.sN 5 (c' := (212, [.ref 93, .int x1, .int x2, .int x3, .int 0, vU], [], (zS (up2 I 93 32 x3) J tg))) rfl ?_
      exact h
  · rw [if_neg c5] at h
    refine Runs.brF (P := x1 < x4) (a := 196) (b := 97) (L := [.ref 93, .int x1, .int x2, .int x3, .int x4, vU]) (S := []) (z := (zS I J tg)) rfl c5 ?_
    refine Runs.sN 4 (c' := (103, [.ref 93, .int x1, .int x2, .int x3, .int x4, .int (x4 + 1)], [], (zS I J tg))) rfl ?_
    exact h
theorem sg_266_103 {L d : Nat} {xs : Nat → Int32} (I : Nat → Nat → Int32) (J : Nat → Nat → Int64) (tg : Option Nat) (x1 : Int32) (x2 : Int32) (x3 : Int32) (x4 : Int32) (x5 : Int32) {r : Option Value × SS} (h : ((if x1 < x5 then (Runs (GW L xs) (d + 1) 266 (91, [.ref 93, .int x1, .int x2, .int x3, .int (x4 + 1), vU], [], (zS I J tg)) r) else (¬ ((840 + x4) < 0 ∨ 1200 ≤ (840 + x4).toNatClampNeg) ∧ (if (I 94 ((840 + x4).toNatClampNeg)) ≤ 0 then (Runs (GW L xs) (d + 1) 266 (91, [.ref 93, .int x1, .int x2, .int x3, .int (x4 + 1), vU], [], (zS I J tg)) r) else (¬ ((840 + x5) < 0 ∨ 1200 ≤ (840 + x5).toNatClampNeg) ∧ (if (I 94 ((840 + x5).toNatClampNeg)) ≤ 0 then (Runs (GW L xs) (d + 1) 266 (103, [.ref 93, .int x1, .int x2, .int x3, .int x4, .int (x5 + 1)], [], (zS I J tg)) r) else (∃ (v1 : Int32) (I2 : Nat → Nat → Int32) (J3 : Nat → Nat → Int64) (tg4 : Option Nat), Runs (GW L xs) d 264 (0, [.ref 93, .int x4], [], (zS I J tg)) ((some (.int v1)), (zS I2 J3 tg4)) ∧ ∃ (v5 : Int32) (I6 : Nat → Nat → Int32) (J7 : Nat → Nat → Int64) (tg8 : Option Nat), Runs (GW L xs) d 264 (0, [.ref 93, .int x5], [], (zS I2 J3 tg4)) ((some (.int v5)), (zS I6 J7 tg8)) ∧ ¬ (((12 * v1) + v5) < 0 ∨ 144 ≤ ((12 * v1) + v5).toNatClampNeg) ∧ (if x3 ≤ (I6 108 (((12 * v1) + v5).toNatClampNeg)) then (Runs (GW L xs) (d + 1) 266 (103, [.ref 93, .int x1, .int x2, .int x3, .int x4, .int (x5 + 1)], [], (zS I6 J7 tg8)) r) else (∃ (v9 : Int32) (I10 : Nat → Nat → Int32) (J11 : Nat → Nat → Int64) (tg12 : Option Nat), Runs (GW L xs) d 264 (0, [.ref 93, .int x4], [], (zS I6 J7 tg8)) ((some (.int v9)), (zS I10 J11 tg12)) ∧ ∃ (v13 : Int32) (I14 : Nat → Nat → Int32) (J15 : Nat → Nat → Int64) (tg16 : Option Nat), Runs (GW L xs) d 264 (0, [.ref 93, .int x5], [], (zS I10 J11 tg12)) ((some (.int v13)), (zS I14 J15 tg16)) ∧ ¬ (((12 * v9) + v13) < 0 ∨ 144 ≤ ((12 * v9) + v13).toNatClampNeg) ∧ Runs (GW L xs) (d + 1) 266 (103, [.ref 93, .int x1, .int x2, .int (I14 108 (((12 * v9) + v13).toNatClampNeg)), .int x4, .int (x5 + 1)], [], (zS I14 J15 tg16)) r)))))))))) : Runs (GW L xs) (d + 1) 266 (103, [.ref 93, .int x1, .int x2, .int x3, .int x4, .int x5], [], (zS I J tg)) r := by
  refine Runs.sN 2 (c' := (106, [.ref 93, .int x1, .int x2, .int x3, .int x4, .int x5], [.int x1, .int x5], (zS I J tg))) rfl ?_
  by_cases c17 : x1 < x5
  · rw [if_pos c17] at h
    refine Runs.brT (P := x1 < x5) (a := 190) (b := 109) (L := [.ref 93, .int x1, .int x2, .int x3, .int x4, .int x5]) (S := []) (z := (zS I J tg)) rfl c17 ?_
    refine Runs.sN 2 (c' := (91, [.ref 93, .int x1, .int x2, .int x3, .int (x4 + 1), .int x5], [], (zS I J tg))) rfl ?_
    exact Runs.weak (L := [.ref 93, .int x1, .int x2, .int x3, .int (x4 + 1), vU]) (Lle.k (Lle.k (Lle.k (Lle.k (Lle.k (Lle.u Lle.n)))))) h
  · rw [if_neg c17] at h
    refine Runs.brF (P := x1 < x5) (a := 190) (b := 109) (L := [.ref 93, .int x1, .int x2, .int x3, .int x4, .int x5]) (S := []) (z := (zS I J tg)) rfl c17 ?_
    refine Runs.sN 5 (c' := (119, [.ref 93, .int x1, .int x2, .int x3, .int x4, .int x5], [.int (840 + x4), .ref 94], (zS I J tg))) rfl ?_
    obtain ⟨c18, h⟩ := h
    refine Runs.to (c' := (120, [.ref 93, .int x1, .int x2, .int x3, .int x4, .int x5], [.int (I 94 ((840 + x4).toNatClampNeg))], (zS I J tg))) (Runs.ild rfl (show (94 : Nat) < 114 by decide) rfl c18) ?_
    by_cases c19 : (I 94 ((840 + x4).toNatClampNeg)) ≤ 0
    · rw [if_pos c19] at h
      refine Runs.brT (P := (I 94 ((840 + x4).toNatClampNeg)) ≤ 0) (a := 190) (b := 123) (L := [.ref 93, .int x1, .int x2, .int x3, .int x4, .int x5]) (S := []) (z := (zS I J tg)) rfl c19 ?_
      refine Runs.sN 2 (c' := (91, [.ref 93, .int x1, .int x2, .int x3, .int (x4 + 1), .int x5], [], (zS I J tg))) rfl ?_
      exact Runs.weak (L := [.ref 93, .int x1, .int x2, .int x3, .int (x4 + 1), vU]) (Lle.k (Lle.k (Lle.k (Lle.k (Lle.k (Lle.u Lle.n)))))) h
    · rw [if_neg c19] at h
      refine Runs.brF (P := (I 94 ((840 + x4).toNatClampNeg)) ≤ 0) (a := 190) (b := 123) (L := [.ref 93, .int x1, .int x2, .int x3, .int x4, .int x5]) (S := []) (z := (zS I J tg)) rfl c19 ?_
      refine Runs.sN 5 (c' := (133, [.ref 93, .int x1, .int x2, .int x3, .int x4, .int x5], [.int (840 + x5), .ref 94], (zS I J tg))) rfl ?_
      obtain ⟨c20, h⟩ := h
      refine Runs.to (c' := (134, [.ref 93, .int x1, .int x2, .int x3, .int x4, .int x5], [.int (I 94 ((840 + x5).toNatClampNeg))], (zS I J tg))) (Runs.ild rfl (show (94 : Nat) < 114 by decide) rfl c20) ?_
      by_cases c21 : (I 94 ((840 + x5).toNatClampNeg)) ≤ 0
      · rw [if_pos c21] at h
        refine Runs.brT (P := (I 94 ((840 + x5).toNatClampNeg)) ≤ 0) (a := 184) (b := 137) (L := [.ref 93, .int x1, .int x2, .int x3, .int x4, .int x5]) (S := []) (z := (zS I J tg)) rfl c21 ?_
        refine Runs.sN 2 (c' := (103, [.ref 93, .int x1, .int x2, .int x3, .int x4, .int (x5 + 1)], [], (zS I J tg))) rfl ?_
        exact h
      · rw [if_neg c21] at h
        refine Runs.brF (P := (I 94 ((840 + x5).toNatClampNeg)) ≤ 0) (a := 184) (b := 137) (L := [.ref 93, .int x1, .int x2, .int x3, .int x4, .int x5]) (S := []) (z := (zS I J tg)) rfl c21 ?_
        refine Runs.sN 5 (c' := (146, [.ref 93, .int x1, .int x2, .int x3, .int x4, .int x5], [.int x4, .ref 93, .int 12, .ref 108], (zS I J tg))) rfl ?_
        obtain ⟨v1, I2, J3, tg4, c22, h⟩ := h
        refine Runs.cl (cm := 264) (as := [.ref 93, .int x4]) (rest := [.int 12, .ref 108]) (r1 := ((some (.int v1)), (zS I2 J3 tg4))) rfl (Nat.le_of_ble_eq_true rfl) c22 ?_
        refine Runs.as (c' := (149, [.ref 93, .int x1, .int x2, .int x3, .int x4, .int x5], [.int v1, .int 12, .ref 108], (zS I2 J3 tg4))) rfl ?_
        refine Runs.sN 3 (c' := (153, [.ref 93, .int x1, .int x2, .int x3, .int x4, .int x5], [.int x5, .ref 93, .int (12 * v1), .ref 108], (zS I2 J3 tg4))) rfl ?_
        obtain ⟨v5, I6, J7, tg8, c23, h⟩ := h
        refine Runs.cl (cm := 264) (as := [.ref 93, .int x5]) (rest := [.int (12 * v1), .ref 108]) (r1 := ((some (.int v5)), (zS I6 J7 tg8))) rfl (Nat.le_of_ble_eq_true rfl) c23 ?_
        refine Runs.as (c' := (156, [.ref 93, .int x1, .int x2, .int x3, .int x4, .int x5], [.int v5, .int (12 * v1), .ref 108], (zS I6 J7 tg8))) rfl ?_
        refine Runs.sN 1 (c' := (157, [.ref 93, .int x1, .int x2, .int x3, .int x4, .int x5], [.int ((12 * v1) + v5), .ref 108], (zS I6 J7 tg8))) rfl ?_
        obtain ⟨c24, h⟩ := h
        refine Runs.to (c' := (158, [.ref 93, .int x1, .int x2, .int x3, .int x4, .int x5], [.int (I6 108 (((12 * v1) + v5).toNatClampNeg))], (zS I6 J7 tg8))) (Runs.ild rfl (show (108 : Nat) < 114 by decide) rfl c24) ?_
        refine Runs.sN 1 (c' := (159, [.ref 93, .int x1, .int x2, .int x3, .int x4, .int x5], [.int x3, .int (I6 108 (((12 * v1) + v5).toNatClampNeg))], (zS I6 J7 tg8))) rfl ?_
        by_cases c25 : x3 ≤ (I6 108 (((12 * v1) + v5).toNatClampNeg))
        · rw [if_pos c25] at h
          refine Runs.brT (P := x3 ≤ (I6 108 (((12 * v1) + v5).toNatClampNeg))) (a := 184) (b := 162) (L := [.ref 93, .int x1, .int x2, .int x3, .int x4, .int x5]) (S := []) (z := (zS I6 J7 tg8)) rfl c25 ?_
          refine Runs.sN 2 (c' := (103, [.ref 93, .int x1, .int x2, .int x3, .int x4, .int (x5 + 1)], [], (zS I6 J7 tg8))) rfl ?_
          exact h
        · rw [if_neg c25] at h
          refine Runs.brF (P := x3 ≤ (I6 108 (((12 * v1) + v5).toNatClampNeg))) (a := 184) (b := 162) (L := [.ref 93, .int x1, .int x2, .int x3, .int x4, .int x5]) (S := []) (z := (zS I6 J7 tg8)) rfl c25 ?_
          refine Runs.sN 5 (c' := (171, [.ref 93, .int x1, .int x2, .int x3, .int x4, .int x5], [.int x4, .ref 93, .int 12, .ref 108], (zS I6 J7 tg8))) rfl ?_
          obtain ⟨v9, I10, J11, tg12, c26, h⟩ := h
          refine Runs.cl (cm := 264) (as := [.ref 93, .int x4]) (rest := [.int 12, .ref 108]) (r1 := ((some (.int v9)), (zS I10 J11 tg12))) rfl (Nat.le_of_ble_eq_true rfl) c26 ?_
          refine Runs.as (c' := (174, [.ref 93, .int x1, .int x2, .int x3, .int x4, .int x5], [.int v9, .int 12, .ref 108], (zS I10 J11 tg12))) rfl ?_
          refine Runs.sN 3 (c' := (178, [.ref 93, .int x1, .int x2, .int x3, .int x4, .int x5], [.int x5, .ref 93, .int (12 * v9), .ref 108], (zS I10 J11 tg12))) rfl ?_
          obtain ⟨v13, I14, J15, tg16, c27, h⟩ := h
          refine Runs.cl (cm := 264) (as := [.ref 93, .int x5]) (rest := [.int (12 * v9), .ref 108]) (r1 := ((some (.int v13)), (zS I14 J15 tg16))) rfl (Nat.le_of_ble_eq_true rfl) c27 ?_
          refine Runs.as (c' := (181, [.ref 93, .int x1, .int x2, .int x3, .int x4, .int x5], [.int v13, .int (12 * v9), .ref 108], (zS I14 J15 tg16))) rfl ?_
          refine Runs.sN 1 (c' := (182, [.ref 93, .int x1, .int x2, .int x3, .int x4, .int x5], [.int ((12 * v9) + v13), .ref 108], (zS I14 J15 tg16))) rfl ?_
          obtain ⟨c28, h⟩ := h
          refine Runs.to (c' := (183, [.ref 93, .int x1, .int x2, .int x3, .int x4, .int x5], [.int (I14 108 (((12 * v9) + v13).toNatClampNeg))], (zS I14 J15 tg16))) (Runs.ild rfl (show (108 : Nat) < 114 by decide) rfl c28) ?_
          refine Runs.sN 3 (c' := (103, [.ref 93, .int x1, .int x2, .int (I14 108 (((12 * v9) + v13).toNatClampNeg)), .int x4, .int (x5 + 1)], [], (zS I14 J15 tg16))) rfl ?_
          exact h
theorem sg_266_212 {L d : Nat} {xs : Nat → Int32} (I : Nat → Nat → Int32) (J : Nat → Nat → Int64) (tg : Option Nat) (x1 : Int32) (x2 : Int32) (x3 : Int32) (x4 : Int32) {r : Option Value × SS} (h : ((if 6 ≤ x4 then (∃ (v1 : Int32) (I2 : Nat → Nat → Int32) (J3 : Nat → Nat → Int64) (tg4 : Option Nat), Runs (GW L xs) d 265 (0, [.ref 93, .int x1, vU], [], (zS I J tg)) ((some (.int v1)), (zS I2 J3 tg4)) ∧ Runs (GW L xs) (d + 1) 266 (81, [.ref 93, .int x1, .int v1, vU, vU, vU], [], (zS I2 J3 tg4)) r) else (¬ ((840 + x4) < 0 ∨ 1200 ≤ (840 + x4).toNatClampNeg) ∧ (if (I 94 ((840 + x4).toNatClampNeg)) ≤ 0 then (¬ (x4 < 0 ∨ 6 ≤ (x4).toNatClampNeg) ∧ Runs (GW L xs) (d + 1) 266 (212, [.ref 93, .int x1, .int x2, .int x3, .int (x4 + 1), vU], [], (zS (up2 I 107 ((x4).toNatClampNeg) (-1)) J tg)) r) else (∃ (v5 : Int32) (I6 : Nat → Nat → Int32) (J7 : Nat → Nat → Int64) (tg8 : Option Nat), Runs (GW L xs) d 264 (0, [.ref 93, .int x4], [], (zS I J tg)) ((some (.int v5)), (zS I6 J7 tg8)) ∧ ¬ (x4 < 0 ∨ 6 ≤ (x4).toNatClampNeg) ∧ Runs (GW L xs) (d + 1) 266 (212, [.ref 93, .int x1, .int x2, .int x3, .int (x4 + 1), vU], [], (zS (up2 I6 107 ((x4).toNatClampNeg) v5) J7 tg8)) r)))))) : Runs (GW L xs) (d + 1) 266 (212, [.ref 93, .int x1, .int x2, .int x3, .int x4, vU], [], (zS I J tg)) r := by
  refine Runs.sN 2 (c' := (216, [.ref 93, .int x1, .int x2, .int x3, .int x4, vU], [.int 6, .int x4], (zS I J tg))) rfl ?_
  by_cases c9 : 6 ≤ x4
  · rw [if_pos c9] at h
    refine Runs.brT (P := 6 ≤ x4) (a := 256) (b := 219) (L := [.ref 93, .int x1, .int x2, .int x3, .int x4, vU]) (S := []) (z := (zS I J tg)) rfl c9 ?_
    refine Runs.sN 2 (c' := (258, [.ref 93, .int x1, .int x2, .int x3, .int x4, vU], [.int x1, .ref 93], (zS I J tg))) rfl ?_
    obtain ⟨v1, I2, J3, tg4, c10, h⟩ := h
    refine Runs.cl (cm := 265) (as := [.ref 93, .int x1]) (rest := []) (r1 := ((some (.int v1)), (zS I2 J3 tg4))) rfl (Nat.le_of_ble_eq_true rfl) c10 ?_
    refine Runs.as (c' := (261, [.ref 93, .int x1, .int x2, .int x3, .int x4, vU], [.int v1], (zS I2 J3 tg4))) rfl ?_
    refine Runs.sN 2 (c' := (81, [.ref 93, .int x1, .int v1, .int x3, .int x4, vU], [], (zS I2 J3 tg4))) rfl ?_
    exact Runs.weak (L := [.ref 93, .int x1, .int v1, vU, vU, vU]) (Lle.k (Lle.k (Lle.k (Lle.u (Lle.u (Lle.k Lle.n)))))) h
  · rw [if_neg c9] at h
    refine Runs.brF (P := 6 ≤ x4) (a := 256) (b := 219) (L := [.ref 93, .int x1, .int x2, .int x3, .int x4, vU]) (S := []) (z := (zS I J tg)) rfl c9 ?_
    refine Runs.sN 8 (c' := (235, [.ref 93, .int x1, .int x2, .int x3, .int x4, vU], [.int (840 + x4), .ref 94, .int x4, .ref 107], (zS I J tg))) rfl ?_
    obtain ⟨c11, h⟩ := h
    refine Runs.to (c' := (236, [.ref 93, .int x1, .int x2, .int x3, .int x4, vU], [.int (I 94 ((840 + x4).toNatClampNeg)), .int x4, .ref 107], (zS I J tg))) (Runs.ild rfl (show (94 : Nat) < 114 by decide) rfl c11) ?_
    by_cases c12 : (I 94 ((840 + x4).toNatClampNeg)) ≤ 0
    · rw [if_pos c12] at h
      refine Runs.brT (P := (I 94 ((840 + x4).toNatClampNeg)) ≤ 0) (a := 248) (b := 239) (L := [.ref 93, .int x1, .int x2, .int x3, .int x4, vU]) (S := [.int x4, .ref 107]) (z := (zS I J tg)) rfl c12 ?_
      refine Runs.sN 1 (c' := (249, [.ref 93, .int x1, .int x2, .int x3, .int x4, vU], [.int (-1), .int x4, .ref 107], (zS I J tg))) rfl ?_
      obtain ⟨c13, h⟩ := h
      refine Runs.to (c' := (250, [.ref 93, .int x1, .int x2, .int x3, .int x4, vU], [], (zS (up2 I 107 ((x4).toNatClampNeg) (-1)) J tg))) (Runs.ist rfl (show (107 : Nat) < 114 by decide) rfl c13) ?_
      refine Runs.sN 2 (c' := (212, [.ref 93, .int x1, .int x2, .int x3, .int (x4 + 1), vU], [], (zS (up2 I 107 ((x4).toNatClampNeg) (-1)) J tg))) rfl ?_
      exact h
    · rw [if_neg c12] at h
      refine Runs.brF (P := (I 94 ((840 + x4).toNatClampNeg)) ≤ 0) (a := 248) (b := 239) (L := [.ref 93, .int x1, .int x2, .int x3, .int x4, vU]) (S := [.int x4, .ref 107]) (z := (zS I J tg)) rfl c12 ?_
      refine Runs.sN 2 (c' := (242, [.ref 93, .int x1, .int x2, .int x3, .int x4, vU], [.int x4, .ref 93, .int x4, .ref 107], (zS I J tg))) rfl ?_
      obtain ⟨v5, I6, J7, tg8, c14, h⟩ := h
      refine Runs.cl (cm := 264) (as := [.ref 93, .int x4]) (rest := [.int x4, .ref 107]) (r1 := ((some (.int v5)), (zS I6 J7 tg8))) rfl (Nat.le_of_ble_eq_true rfl) c14 ?_
      refine Runs.as (c' := (245, [.ref 93, .int x1, .int x2, .int x3, .int x4, vU], [.int v5, .int x4, .ref 107], (zS I6 J7 tg8))) rfl ?_
      refine Runs.sN 1 (c' := (249, [.ref 93, .int x1, .int x2, .int x3, .int x4, vU], [.int v5, .int x4, .ref 107], (zS I6 J7 tg8))) rfl ?_
      obtain ⟨c15, h⟩ := h
      refine Runs.to (c' := (250, [.ref 93, .int x1, .int x2, .int x3, .int x4, vU], [], (zS (up2 I6 107 ((x4).toNatClampNeg) v5) J7 tg8))) (Runs.ist rfl (show (107 : Nat) < 114 by decide) rfl c15) ?_
      refine Runs.sN 2 (c' := (212, [.ref 93, .int x1, .int x2, .int x3, .int (x4 + 1), vU], [], (zS (up2 I6 107 ((x4).toNatClampNeg) v5) J7 tg8))) rfl ?_
      exact h
-- X12_choice 
theorem sg_267 {L d : Nat} {xs : Nat → Int32} (I : Nat → Nat → Int32) (J : Nat → Nat → Int64) (tg : Option Nat) (a1 : Int32) {r : Option Value × SS} (h : ((if a1 = (-1) then (∃ (v19 : Int32) (I20 : Nat → Nat → Int32) (J21 : Nat → Nat → Int64) (tg22 : Option Nat), Runs (GW L xs) d 263 (0, [.ref 93, .int 5, vU, vU], [], (zS I J tg)) ((some (.int v19)), (zS I20 J21 tg22)) ∧ (if 2 ≤ v19 then (∃ (I23 : Nat → Nat → Int32) (J24 : Nat → Nat → Int64) (tg25 : Option Nat), Runs (GW L xs) d 266 (0, [.ref 93, .int 5, vU, vU, vU, vU], [], (zS I20 J21 tg22)) (none, (zS I23 J24 tg25)) ∧ (if a1 = (-1) then (r = (some (.int (I23 93 32)), (zS I23 J24 tg25))) else (¬ (a1 < 0 ∨ 6 ≤ (a1).toNatClampNeg) ∧ r = (some (.int (I23 107 ((a1).toNatClampNeg))), (zS I23 J24 tg25))))) else (r = (some (.int (-1)), (zS I20 J21 tg22))))) else (∃ (v26 : Int32) (I27 : Nat → Nat → Int32) (J28 : Nat → Nat → Int64) (tg29 : Option Nat), Runs (GW L xs) d 182 (0, [.int a1], [], (zS I J tg)) ((some (.int v26)), (zS I27 J28 tg29)) ∧ (if v26 = 0 then (r = (some (.int (-1)), (zS I27 J28 tg29))) else (¬ ((840 + a1) < 0 ∨ 1200 ≤ (840 + a1).toNatClampNeg) ∧ (if (I27 94 ((840 + a1).toNatClampNeg)) = 0 then (r = (some (.int (-1)), (zS I27 J28 tg29))) else (∃ (v30 : Int32) (I31 : Nat → Nat → Int32) (J32 : Nat → Nat → Int64) (tg33 : Option Nat), Runs (GW L xs) d 263 (0, [.ref 93, .int 5, vU, vU], [], (zS I27 J28 tg29)) ((some (.int v30)), (zS I31 J32 tg33)) ∧ (if 2 ≤ v30 then (∃ (I34 : Nat → Nat → Int32) (J35 : Nat → Nat → Int64) (tg36 : Option Nat), Runs (GW L xs) d 266 (0, [.ref 93, .int 5, vU, vU, vU, vU], [], (zS I31 J32 tg33)) (none, (zS I34 J35 tg36)) ∧ (if a1 = (-1) then (r = (some (.int (I34 93 32)), (zS I34 J35 tg36))) else (¬ (a1 < 0 ∨ 6 ≤ (a1).toNatClampNeg) ∧ r = (some (.int (I34 107 ((a1).toNatClampNeg))), (zS I34 J35 tg36))))) else (r = (some (.int (-1)), (zS I31 J32 tg33)))))))))))) : Runs (GW L xs) (d + 1) 267 (0, [.ref 93, .int a1], [], (zS I J tg)) r := by
  refine Runs.sN 2 (c' := (2, [.ref 93, .int a1], [.int (-1), .int a1], (zS I J tg))) rfl ?_
  by_cases c37 : a1 = (-1)
  · rw [if_pos c37] at h
    refine Runs.brT (P := a1 = (-1)) (a := 25) (b := 5) (L := [.ref 93, .int a1]) (S := []) (z := (zS I J tg)) rfl c37 ?_
    refine Runs.sN 2 (c' := (27, [.ref 93, .int a1], [.int 5, .ref 93], (zS I J tg))) rfl ?_
    obtain ⟨v19, I20, J21, tg22, c38, h⟩ := h
    refine Runs.cl (cm := 263) (as := [.ref 93, .int 5]) (rest := []) (r1 := ((some (.int v19)), (zS I20 J21 tg22))) rfl (Nat.le_of_ble_eq_true rfl) c38 ?_
    refine Runs.as (c' := (30, [.ref 93, .int a1], [.int v19], (zS I20 J21 tg22))) rfl ?_
    refine Runs.sN 1 (c' := (31, [.ref 93, .int a1], [.int 2, .int v19], (zS I20 J21 tg22))) rfl ?_
    by_cases c39 : 2 ≤ v19
    · rw [if_pos c39] at h
      refine Runs.brT (P := 2 ≤ v19) (a := 36) (b := 34) (L := [.ref 93, .int a1]) (S := []) (z := (zS I20 J21 tg22)) rfl c39 ?_
      refine Runs.sN 2 (c' := (38, [.ref 93, .int a1], [.int 5, .ref 93], (zS I20 J21 tg22))) rfl ?_
      obtain ⟨I23, J24, tg25, c40, h⟩ := h
      refine Runs.cl (cm := 266) (as := [.ref 93, .int 5]) (rest := []) (r1 := (none, (zS I23 J24 tg25))) rfl (Nat.le_of_ble_eq_true rfl) c40 ?_
      refine Runs.as (c' := (41, [.ref 93, .int a1], [], (zS I23 J24 tg25))) rfl ?_
      refine Runs.sN 2 (c' := (43, [.ref 93, .int a1], [.int (-1), .int a1], (zS I23 J24 tg25))) rfl ?_
      by_cases c41 : a1 = (-1)
      · rw [if_pos c41] at h
        refine Runs.brT (P := a1 = (-1)) (a := 46) (b := 53) (L := [.ref 93, .int a1]) (S := []) (z := (zS I23 J24 tg25)) rfl c41 ?_
        refine Runs.sN 3 (c' := (59, [.ref 93, .int a1], [.int (I23 93 32)], (zS I23 J24 tg25))) rfl ?_
        subst h
        exact Runs.rt rfl
      · rw [if_neg c41] at h
        refine Runs.brF (P := a1 = (-1)) (a := 46) (b := 53) (L := [.ref 93, .int a1]) (S := []) (z := (zS I23 J24 tg25)) rfl c41 ?_
        refine Runs.sN 3 (c' := (58, [.ref 93, .int a1], [.int a1, .ref 107], (zS I23 J24 tg25))) rfl ?_
        obtain ⟨c42, h⟩ := h
        refine Runs.to (c' := (59, [.ref 93, .int a1], [.int (I23 107 ((a1).toNatClampNeg))], (zS I23 J24 tg25))) (Runs.ild rfl (show (107 : Nat) < 114 by decide) rfl c42) ?_
        subst h
        exact Runs.rt rfl
    · rw [if_neg c39] at h
      refine Runs.brF (P := 2 ≤ v19) (a := 36) (b := 34) (L := [.ref 93, .int a1]) (S := []) (z := (zS I20 J21 tg22)) rfl c39 ?_
      refine Runs.sN 1 (c' := (35, [.ref 93, .int a1], [.int (-1)], (zS I20 J21 tg22))) rfl ?_
      subst h
      exact Runs.rt rfl
  · rw [if_neg c37] at h
    refine Runs.brF (P := a1 = (-1)) (a := 25) (b := 5) (L := [.ref 93, .int a1]) (S := []) (z := (zS I J tg)) rfl c37 ?_
    refine Runs.sN 1 (c' := (6, [.ref 93, .int a1], [.int a1], (zS I J tg))) rfl ?_
    obtain ⟨v26, I27, J28, tg29, c43, h⟩ := h
    refine Runs.cl (cm := 182) (as := [.int a1]) (rest := []) (r1 := ((some (.int v26)), (zS I27 J28 tg29))) rfl (Nat.le_of_ble_eq_true rfl) c43 ?_
    refine Runs.as (c' := (9, [.ref 93, .int a1], [.int v26], (zS I27 J28 tg29))) rfl ?_
    by_cases c44 : v26 = 0
    · rw [if_pos c44] at h
      refine Runs.brT (P := v26 = 0) (a := 34) (b := 12) (L := [.ref 93, .int a1]) (S := []) (z := (zS I27 J28 tg29)) rfl c44 ?_
      refine Runs.sN 1 (c' := (35, [.ref 93, .int a1], [.int (-1)], (zS I27 J28 tg29))) rfl ?_
      subst h
      exact Runs.rt rfl
    · rw [if_neg c44] at h
      refine Runs.brF (P := v26 = 0) (a := 34) (b := 12) (L := [.ref 93, .int a1]) (S := []) (z := (zS I27 J28 tg29)) rfl c44 ?_
      refine Runs.sN 5 (c' := (21, [.ref 93, .int a1], [.int (840 + a1), .ref 94], (zS I27 J28 tg29))) rfl ?_
      obtain ⟨c45, h⟩ := h
      refine Runs.to (c' := (22, [.ref 93, .int a1], [.int (I27 94 ((840 + a1).toNatClampNeg))], (zS I27 J28 tg29))) (Runs.ild rfl (show (94 : Nat) < 114 by decide) rfl c45) ?_
      by_cases c46 : (I27 94 ((840 + a1).toNatClampNeg)) = 0
      · rw [if_pos c46] at h
        refine Runs.brT (P := (I27 94 ((840 + a1).toNatClampNeg)) = 0) (a := 34) (b := 25) (L := [.ref 93, .int a1]) (S := []) (z := (zS I27 J28 tg29)) rfl c46 ?_
        refine Runs.sN 1 (c' := (35, [.ref 93, .int a1], [.int (-1)], (zS I27 J28 tg29))) rfl ?_
        subst h
        exact Runs.rt rfl
      · rw [if_neg c46] at h
        refine Runs.brF (P := (I27 94 ((840 + a1).toNatClampNeg)) = 0) (a := 34) (b := 25) (L := [.ref 93, .int a1]) (S := []) (z := (zS I27 J28 tg29)) rfl c46 ?_
        refine Runs.sN 2 (c' := (27, [.ref 93, .int a1], [.int 5, .ref 93], (zS I27 J28 tg29))) rfl ?_
        obtain ⟨v30, I31, J32, tg33, c47, h⟩ := h
        refine Runs.cl (cm := 263) (as := [.ref 93, .int 5]) (rest := []) (r1 := ((some (.int v30)), (zS I31 J32 tg33))) rfl (Nat.le_of_ble_eq_true rfl) c47 ?_
        refine Runs.as (c' := (30, [.ref 93, .int a1], [.int v30], (zS I31 J32 tg33))) rfl ?_
        refine Runs.sN 1 (c' := (31, [.ref 93, .int a1], [.int 2, .int v30], (zS I31 J32 tg33))) rfl ?_
        by_cases c48 : 2 ≤ v30
        · rw [if_pos c48] at h
          refine Runs.brT (P := 2 ≤ v30) (a := 36) (b := 34) (L := [.ref 93, .int a1]) (S := []) (z := (zS I31 J32 tg33)) rfl c48 ?_
          refine Runs.sN 2 (c' := (38, [.ref 93, .int a1], [.int 5, .ref 93], (zS I31 J32 tg33))) rfl ?_
          obtain ⟨I34, J35, tg36, c49, h⟩ := h
          refine Runs.cl (cm := 266) (as := [.ref 93, .int 5]) (rest := []) (r1 := (none, (zS I34 J35 tg36))) rfl (Nat.le_of_ble_eq_true rfl) c49 ?_
          refine Runs.as (c' := (41, [.ref 93, .int a1], [], (zS I34 J35 tg36))) rfl ?_
          refine Runs.sN 2 (c' := (43, [.ref 93, .int a1], [.int (-1), .int a1], (zS I34 J35 tg36))) rfl ?_
          by_cases c50 : a1 = (-1)
          · rw [if_pos c50] at h
            refine Runs.brT (P := a1 = (-1)) (a := 46) (b := 53) (L := [.ref 93, .int a1]) (S := []) (z := (zS I34 J35 tg36)) rfl c50 ?_
            refine Runs.sN 3 (c' := (59, [.ref 93, .int a1], [.int (I34 93 32)], (zS I34 J35 tg36))) rfl ?_
            subst h
            exact Runs.rt rfl
          · rw [if_neg c50] at h
            refine Runs.brF (P := a1 = (-1)) (a := 46) (b := 53) (L := [.ref 93, .int a1]) (S := []) (z := (zS I34 J35 tg36)) rfl c50 ?_
            refine Runs.sN 3 (c' := (58, [.ref 93, .int a1], [.int a1, .ref 107], (zS I34 J35 tg36))) rfl ?_
            obtain ⟨c51, h⟩ := h
            refine Runs.to (c' := (59, [.ref 93, .int a1], [.int (I34 107 ((a1).toNatClampNeg))], (zS I34 J35 tg36))) (Runs.ild rfl (show (107 : Nat) < 114 by decide) rfl c51) ?_
            subst h
            exact Runs.rt rfl
        · rw [if_neg c48] at h
          refine Runs.brF (P := 2 ≤ v30) (a := 36) (b := 34) (L := [.ref 93, .int a1]) (S := []) (z := (zS I31 J32 tg33)) rfl c48 ?_
          refine Runs.sN 1 (c' := (35, [.ref 93, .int a1], [.int (-1)], (zS I31 J32 tg33))) rfl ?_
          subst h
          exact Runs.rt rfl
-- X12_bars 
theorem sg_268 {L d : Nat} {xs : Nat → Int32} (I : Nat → Nat → Int32) (J : Nat → Nat → Int64) (tg : Option Nat) (a1 : Int32) {r : Option Value × SS} (h : (∃ (v12 : Int32) (I13 : Nat → Nat → Int32) (J14 : Nat → Nat → Int64) (tg15 : Option Nat), Runs (GW L xs) d 177 (0, [.int a1, .int 1, .int 999], [], (zS I J tg)) ((some (.int v12)), (zS I13 J14 tg15)) ∧ (if v12 = 0 then (r = (some (.int (-1)), (zS I13 J14 tg15))) else (Runs (GW L xs) (d + 1) 268 (15, [.ref 93, .int a1, .int 0], [], (zS I13 J14 tg15)) r)))) : Runs (GW L xs) (d + 1) 268 (0, [.ref 93, .int a1, vU], [], (zS I J tg)) r := by
  refine Runs.sN 3 (c' := (5, [.ref 93, .int a1, vU], [.int 999, .int 1, .int a1], (zS I J tg))) rfl ?_
  obtain ⟨v12, I13, J14, tg15, c16, h⟩ := h
  refine Runs.cl (cm := 177) (as := [.int a1, .int 1, .int 999]) (rest := []) (r1 := ((some (.int v12)), (zS I13 J14 tg15))) rfl (Nat.le_of_ble_eq_true rfl) c16 ?_
  refine Runs.as (c' := (8, [.ref 93, .int a1, vU], [.int v12], (zS I13 J14 tg15))) rfl ?_
  by_cases c17 : v12 = 0
  · rw [if_pos c17] at h
    refine Runs.brT (P := v12 = 0) (a := 11) (b := 13) (L := [.ref 93, .int a1, vU]) (S := []) (z := (zS I13 J14 tg15)) rfl c17 ?_
    refine Runs.sN 1 (c' := (12, [.ref 93, .int a1, vU], [.int (-1)], (zS I13 J14 tg15))) rfl ?_
    subst h
    exact Runs.rt rfl
  · rw [if_neg c17] at h
    refine Runs.brF (P := v12 = 0) (a := 11) (b := 13) (L := [.ref 93, .int a1, vU]) (S := []) (z := (zS I13 J14 tg15)) rfl c17 ?_
    refine Runs.sN 2 (c' := (15, [.ref 93, .int a1, .int 0], [], (zS I13 J14 tg15))) rfl ?_
    exact h
theorem sg_268_15 {L d : Nat} {xs : Nat → Int32} (I : Nat → Nat → Int32) (J : Nat → Nat → Int64) (tg : Option Nat) (x1 : Int32) (x2 : Int32) {r : Option Value × SS} (h : ((if 6 ≤ x2 then (r = (some (.int (-1)), (zS I J tg))) else (¬ ((840 + x2) < 0 ∨ 1200 ≤ (840 + x2).toNatClampNeg) ∧ (if (I 94 ((840 + x2).toNatClampNeg)) = 0 then (Runs (GW L xs) (d + 1) 268 (15, [.ref 93, .int x1, .int (x2 + 1)], [], (zS I J tg)) r) else (∃ (I1 : Nat → Nat → Int32) (J2 : Nat → Nat → Int64) (tg3 : Option Nat), Runs (GW L xs) d 266 (0, [.ref 93, .int x2, vU, vU, vU, vU], [], (zS I J tg)) (none, (zS I1 J2 tg3)) ∧ (if x1 ≤ (I1 93 32) then (Runs (GW L xs) (d + 1) 268 (15, [.ref 93, .int x1, .int (x2 + 1)], [], (zS I1 J2 tg3)) r) else (r = (some (.int x2), (zS I1 J2 tg3)))))))))) : Runs (GW L xs) (d + 1) 268 (15, [.ref 93, .int x1, .int x2], [], (zS I J tg)) r := by
  refine Runs.sN 2 (c' := (18, [.ref 93, .int x1, .int x2], [.int 6, .int x2], (zS I J tg))) rfl ?_
  by_cases c4 : 6 ≤ x2
  · rw [if_pos c4] at h
    refine Runs.brT (P := 6 ≤ x2) (a := 58) (b := 21) (L := [.ref 93, .int x1, .int x2]) (S := []) (z := (zS I J tg)) rfl c4 ?_
    refine Runs.sN 1 (c' := (59, [.ref 93, .int x1, .int x2], [.int (-1)], (zS I J tg))) rfl ?_
    subst h
    exact Runs.rt rfl
  · rw [if_neg c4] at h
    refine Runs.brF (P := 6 ≤ x2) (a := 58) (b := 21) (L := [.ref 93, .int x1, .int x2]) (S := []) (z := (zS I J tg)) rfl c4 ?_
    refine Runs.sN 5 (c' := (30, [.ref 93, .int x1, .int x2], [.int (840 + x2), .ref 94], (zS I J tg))) rfl ?_
    obtain ⟨c5, h⟩ := h
    refine Runs.to (c' := (31, [.ref 93, .int x1, .int x2], [.int (I 94 ((840 + x2).toNatClampNeg))], (zS I J tg))) (Runs.ild rfl (show (94 : Nat) < 114 by decide) rfl c5) ?_
    by_cases c6 : (I 94 ((840 + x2).toNatClampNeg)) = 0
    · rw [if_pos c6] at h
      refine Runs.brT (P := (I 94 ((840 + x2).toNatClampNeg)) = 0) (a := 34) (b := 37) (L := [.ref 93, .int x1, .int x2]) (S := []) (z := (zS I J tg)) rfl c6 ?_
      refine Runs.sN 3 (c' := (15, [.ref 93, .int x1, .int (x2 + 1)], [], (zS I J tg))) rfl ?_
      exact h
    · rw [if_neg c6] at h
      refine Runs.brF (P := (I 94 ((840 + x2).toNatClampNeg)) = 0) (a := 34) (b := 37) (L := [.ref 93, .int x1, .int x2]) (S := []) (z := (zS I J tg)) rfl c6 ?_
      refine Runs.sN 2 (c' := (39, [.ref 93, .int x1, .int x2], [.int x2, .ref 93], (zS I J tg))) rfl ?_
      obtain ⟨I1, J2, tg3, c7, h⟩ := h
      refine Runs.cl (cm := 266) (as := [.ref 93, .int x2]) (rest := []) (r1 := (none, (zS I1 J2 tg3))) rfl (Nat.le_of_ble_eq_true rfl) c7 ?_
      refine Runs.as (c' := (42, [.ref 93, .int x1, .int x2], [], (zS I1 J2 tg3))) rfl ?_
      refine Runs.sN 3 (c' := (47, [.ref 93, .int x1, .int x2], [.int x1, .int (I1 93 32)], (zS I1 J2 tg3))) rfl ?_
      by_cases c8 : x1 ≤ (I1 93 32)
      · rw [if_pos c8] at h
        refine Runs.brT (P := x1 ≤ (I1 93 32)) (a := 52) (b := 50) (L := [.ref 93, .int x1, .int x2]) (S := []) (z := (zS I1 J2 tg3)) rfl c8 ?_
        refine Runs.sN 2 (c' := (15, [.ref 93, .int x1, .int (x2 + 1)], [], (zS I1 J2 tg3))) rfl ?_
        exact h
      · rw [if_neg c8] at h
        refine Runs.brF (P := x1 ≤ (I1 93 32)) (a := 52) (b := 50) (L := [.ref 93, .int x1, .int x2]) (S := []) (z := (zS I1 J2 tg3)) rfl c8 ?_
        refine Runs.sN 1 (c' := (51, [.ref 93, .int x1, .int x2], [.int x2], (zS I1 J2 tg3))) rfl ?_
        subst h
        exact Runs.rt rfl
-- X12_group 
theorem sg_269 {L d : Nat} {xs : Nat → Int32} (I : Nat → Nat → Int32) (J : Nat → Nat → Int64) (tg : Option Nat) (a1 : Int32) (a2 : Int32) {r : Option Value × SS} (h : (∃ (v9 : Int32) (I10 : Nat → Nat → Int32) (J11 : Nat → Nat → Int64) (tg12 : Option Nat), Runs (GW L xs) d 180 (0, [.ref 93, .int a1], [], (zS I J tg)) ((some (.int v9)), (zS I10 J11 tg12)) ∧ (if v9 = 0 then (r = (some (.int 0), (zS I10 J11 tg12))) else (∃ (v13 : Int32) (I14 : Nat → Nat → Int32) (J15 : Nat → Nat → Int64) (tg16 : Option Nat), Runs (GW L xs) d 177 (0, [.int a2, .int 0, .int 5], [], (zS I10 J11 tg12)) ((some (.int v13)), (zS I14 J15 tg16)) ∧ (if v13 = 0 then (r = (some (.int 0), (zS I14 J15 tg16))) else (¬ (((780 + a1) - 12) < 0 ∨ 1200 ≤ ((780 + a1) - 12).toNatClampNeg) ∧ r = (some (.int 1), (zS (up2 I14 94 (((780 + a1) - 12).toNatClampNeg) a2) J15 tg16)))))))) : Runs (GW L xs) (d + 1) 269 (0, [.ref 93, .int a1, .int a2], [], (zS I J tg)) r := by
  refine Runs.sN 2 (c' := (2, [.ref 93, .int a1, .int a2], [.int a1, .ref 93], (zS I J tg))) rfl ?_
  obtain ⟨v9, I10, J11, tg12, c17, h⟩ := h
  refine Runs.cl (cm := 180) (as := [.ref 93, .int a1]) (rest := []) (r1 := ((some (.int v9)), (zS I10 J11 tg12))) rfl (Nat.le_of_ble_eq_true rfl) c17 ?_
  refine Runs.as (c' := (5, [.ref 93, .int a1, .int a2], [.int v9], (zS I10 J11 tg12))) rfl ?_
  by_cases c18 : v9 = 0
  · rw [if_pos c18] at h
    refine Runs.brT (P := v9 = 0) (a := 17) (b := 8) (L := [.ref 93, .int a1, .int a2]) (S := []) (z := (zS I10 J11 tg12)) rfl c18 ?_
    refine Runs.sN 1 (c' := (18, [.ref 93, .int a1, .int a2], [.int 0], (zS I10 J11 tg12))) rfl ?_
    subst h
    exact Runs.rt rfl
  · rw [if_neg c18] at h
    refine Runs.brF (P := v9 = 0) (a := 17) (b := 8) (L := [.ref 93, .int a1, .int a2]) (S := []) (z := (zS I10 J11 tg12)) rfl c18 ?_
    refine Runs.sN 3 (c' := (11, [.ref 93, .int a1, .int a2], [.int 5, .int 0, .int a2], (zS I10 J11 tg12))) rfl ?_
    obtain ⟨v13, I14, J15, tg16, c19, h⟩ := h
    refine Runs.cl (cm := 177) (as := [.int a2, .int 0, .int 5]) (rest := []) (r1 := ((some (.int v13)), (zS I14 J15 tg16))) rfl (Nat.le_of_ble_eq_true rfl) c19 ?_
    refine Runs.as (c' := (14, [.ref 93, .int a1, .int a2], [.int v13], (zS I14 J15 tg16))) rfl ?_
    by_cases c20 : v13 = 0
    · rw [if_pos c20] at h
      refine Runs.brT (P := v13 = 0) (a := 17) (b := 19) (L := [.ref 93, .int a1, .int a2]) (S := []) (z := (zS I14 J15 tg16)) rfl c20 ?_
      refine Runs.sN 1 (c' := (18, [.ref 93, .int a1, .int a2], [.int 0], (zS I14 J15 tg16))) rfl ?_
      subst h
      exact Runs.rt rfl
    · rw [if_neg c20] at h
      refine Runs.brF (P := v13 = 0) (a := 17) (b := 19) (L := [.ref 93, .int a1, .int a2]) (S := []) (z := (zS I14 J15 tg16)) rfl c20 ?_
      refine Runs.sN 8 (c' := (32, [.ref 93, .int a1, .int a2], [.int a2, .int ((780 + a1) - 12), .ref 94], (zS I14 J15 tg16))) rfl ?_
      obtain ⟨c21, h⟩ := h
      refine Runs.to (c' := (33, [.ref 93, .int a1, .int a2], [], (zS (up2 I14 94 (((780 + a1) - 12).toNatClampNeg) a2) J15 tg16))) (Runs.ist rfl (show (94 : Nat) < 114 by decide) rfl c21) ?_
      refine Runs.sN 1 (c' := (34, [.ref 93, .int a1, .int a2], [.int 1], (zS (up2 I14 94 (((780 + a1) - 12).toNatClampNeg) a2) J15 tg16))) rfl ?_
      subst h
      exact Runs.rt rfl
-- X12_hang 
theorem sg_270 {L d : Nat} {xs : Nat → Int32} (I : Nat → Nat → Int32) (J : Nat → Nat → Int64) (tg : Option Nat) (a1 : Int32) {r : Option Value × SS} (h : (∃ (v5 : Int32) (I6 : Nat → Nat → Int32) (J7 : Nat → Nat → Int64) (tg8 : Option Nat), Runs (GW L xs) d 179 (0, [.ref 93, .int a1], [], (zS I J tg)) ((some (.int v5)), (zS I6 J7 tg8)) ∧ (if v5 = 0 then (r = (some (.int (-1)), (zS I6 J7 tg8))) else ((if (I6 94 6) = 8 then (r = (some (.int (-1)), (zS I6 J7 tg8))) else (¬ ((880 + (I6 94 6)) < 0 ∨ 1200 ≤ (880 + (I6 94 6)).toNatClampNeg) ∧ r = (some (.int (((up2 I6 94 ((880 + (I6 94 6)).toNatClampNeg) a1) 94 6) + 1)), (zS (up2 (up2 I6 94 ((880 + (I6 94 6)).toNatClampNeg) a1) 94 6 (((up2 I6 94 ((880 + (I6 94 6)).toNatClampNeg) a1) 94 6) + 1)) J7 tg8)))))))) : Runs (GW L xs) (d + 1) 270 (0, [.ref 93, .int a1], [], (zS I J tg)) r := by
  refine Runs.sN 2 (c' := (2, [.ref 93, .int a1], [.int a1, .ref 93], (zS I J tg))) rfl ?_
  obtain ⟨v5, I6, J7, tg8, c9, h⟩ := h
  refine Runs.cl (cm := 179) (as := [.ref 93, .int a1]) (rest := []) (r1 := ((some (.int v5)), (zS I6 J7 tg8))) rfl (Nat.le_of_ble_eq_true rfl) c9 ?_
  refine Runs.as (c' := (5, [.ref 93, .int a1], [.int v5], (zS I6 J7 tg8))) rfl ?_
  by_cases c10 : v5 = 0
  · rw [if_pos c10] at h
    refine Runs.brT (P := v5 = 0) (a := 20) (b := 8) (L := [.ref 93, .int a1]) (S := []) (z := (zS I6 J7 tg8)) rfl c10 ?_
    refine Runs.sN 1 (c' := (21, [.ref 93, .int a1], [.int (-1)], (zS I6 J7 tg8))) rfl ?_
    subst h
    exact Runs.rt rfl
  · rw [if_neg c10] at h
    refine Runs.brF (P := v5 = 0) (a := 20) (b := 8) (L := [.ref 93, .int a1]) (S := []) (z := (zS I6 J7 tg8)) rfl c10 ?_
    refine Runs.sN 5 (c' := (17, [.ref 93, .int a1], [.int 8, .int (I6 94 6)], (zS I6 J7 tg8))) rfl ?_
    by_cases c11 : (I6 94 6) = 8
    · rw [if_pos c11] at h
      refine Runs.brT (P := (I6 94 6) = 8) (a := 20) (b := 22) (L := [.ref 93, .int a1]) (S := []) (z := (zS I6 J7 tg8)) rfl c11 ?_
      refine Runs.sN 1 (c' := (21, [.ref 93, .int a1], [.int (-1)], (zS I6 J7 tg8))) rfl ?_
      subst h
      exact Runs.rt rfl
    · rw [if_neg c11] at h
      refine Runs.brF (P := (I6 94 6) = 8) (a := 20) (b := 22) (L := [.ref 93, .int a1]) (S := []) (z := (zS I6 J7 tg8)) rfl c11 ?_
      refine Runs.sN 9 (c' := (38, [.ref 93, .int a1], [.int a1, .int (880 + (I6 94 6)), .ref 94], (zS I6 J7 tg8))) rfl ?_
      obtain ⟨c12, h⟩ := h
      refine Runs.to (c' := (39, [.ref 93, .int a1], [], (zS (up2 I6 94 ((880 + (I6 94 6)).toNatClampNeg) a1) J7 tg8))) (Runs.ist rfl (show (94 : Nat) < 114 by decide) rfl c12) ?_
      refine Runs.sN 12 (c' := (57, [.ref 93, .int a1], [.int (((up2 I6 94 ((880 + (I6 94 6)).toNatClampNeg) a1) 94 6) + 1)], (zS (up2 (up2 I6 94 ((880 + (I6 94 6)).toNatClampNeg) a1) 94 6 (((up2 I6 94 ((880 + (I6 94 6)).toNatClampNeg) a1) 94 6) + 1)) J7 tg8))) rfl ?_
      subst h
      exact Runs.rt rfl
-- X12_unhang 
theorem sg_271 {L d : Nat} {xs : Nat → Int32} (I : Nat → Nat → Int32) (J : Nat → Nat → Int64) (tg : Option Nat) {r : Option Value × SS} (h : (r = (some (.int (I 94 6)), (zS (up2 I 94 6 0) J tg)))) : Runs (GW L xs) d 271 (0, [.ref 93, vU], [], (zS I J tg)) r := by
  refine Runs.sN 11 (c' := (17, [.ref 93, .int (I 94 6)], [.int (I 94 6)], (zS (up2 I 94 6 0) J tg))) rfl ?_
  subst h
  exact Runs.rt rfl
-- X12_groupOf 
theorem sg_272 {L d : Nat} {xs : Nat → Int32} (I : Nat → Nat → Int32) (J : Nat → Nat → Int64) (tg : Option Nat) (a1 : Int32) {r : Option Value × SS} (h : ((if 0 ≤ a1 then (¬ (((780 + a1) - 12) < 0 ∨ 1200 ≤ ((780 + a1) - 12).toNatClampNeg) ∧ r = (some (.int (I 94 (((780 + a1) - 12).toNatClampNeg))), (zS I J tg))) else (r = (some (.int 0), (zS I J tg)))))) : Runs (GW L xs) d 272 (0, [.ref 93, .int a1], [], (zS I J tg)) r := by
  refine Runs.sN 1 (c' := (1, [.ref 93, .int a1], [.int a1], (zS I J tg))) rfl ?_
  by_cases c1 : 0 ≤ a1
  · rw [if_pos c1] at h
    refine Runs.brT (P := 0 ≤ a1) (a := 8) (b := 4) (L := [.ref 93, .int a1]) (S := []) (z := (zS I J tg)) rfl c1 ?_
    refine Runs.sN 7 (c' := (20, [.ref 93, .int a1], [.int ((780 + a1) - 12), .ref 94], (zS I J tg))) rfl ?_
    obtain ⟨c2, h⟩ := h
    refine Runs.to (c' := (21, [.ref 93, .int a1], [.int (I 94 (((780 + a1) - 12).toNatClampNeg))], (zS I J tg))) (Runs.ild rfl (show (94 : Nat) < 114 by decide) rfl c2) ?_
    subst h
    exact Runs.rt rfl
  · rw [if_neg c1] at h
    refine Runs.brF (P := 0 ≤ a1) (a := 8) (b := 4) (L := [.ref 93, .int a1]) (S := []) (z := (zS I J tg)) rfl c1 ?_
    refine Runs.sN 2 (c' := (21, [.ref 93, .int a1], [.int 0], (zS I J tg))) rfl ?_
    subst h
    exact Runs.rt rfl
