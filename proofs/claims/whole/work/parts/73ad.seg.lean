-- X6_heed 
theorem sg_52 {L d : Nat} {xs : Nat → Int32} (I : Nat → Nat → Int32) (J : Nat → Nat → Int64) (tg : Option Nat) (a1 : Int32) {r : Option Value × SS} (h : ((if a1 = (-1) then (Runs (GW L xs) (d + 1) 52 (7, [.ref 92, .int a1, .int 0], [], (zS I J tg)) r) else ((if (I 92 3) = 0 then (Runs (GW L xs) (d + 1) 52 (109, [.ref 92, .int a1, .int 0], [], (zS (up2 (up2 I 92 4 ((I 92 4) ||| (1 <<< (a1 &&& 31)))) 92 3 0) J tg)) r) else (¬ (a1 < 0 ∨ 12 ≤ (a1).toNatClampNeg) ∧ (if (I 7 0) < (I 77 ((a1).toNatClampNeg)) then (Runs (GW L xs) (d + 1) 52 (109, [.ref 92, .int a1, .int 0], [], (zS (up2 (up2 I 92 4 ((I 92 4) ||| (1 <<< (a1 &&& 31)))) 92 3 0) J tg)) r) else (Runs (GW L xs) (d + 1) 52 (109, [.ref 92, .int a1, .int 0], [], (zS (up2 (up2 I 92 4 ((I 92 4) ||| (1 <<< (a1 &&& 31)))) 92 3 1) J tg)) r)))))))) : Runs (GW L xs) (d + 1) 52 (0, [.ref 92, .int a1, vU], [], (zS I J tg)) r := by
  refine Runs.sN 2 (c' := (2, [.ref 92, .int a1, vU], [.int (-1), .int a1], (zS I J tg))) rfl ?_
  by_cases c3 : a1 = (-1)
  · rw [if_pos c3] at h
    refine Runs.brT (P := a1 = (-1)) (a := 5) (b := 60) (L := [.ref 92, .int a1, vU]) (S := []) (z := (zS I J tg)) rfl c3 ?_
    refine Runs.sN 2 (c' := (7, [.ref 92, .int a1, .int 0], [], (zS I J tg))) rfl ?_
    exact h
  · rw [if_neg c3] at h
    refine Runs.brF (P := a1 = (-1)) (a := 5) (b := 60) (L := [.ref 92, .int a1, vU]) (S := []) (z := (zS I J tg)) rfl c3 ?_
    refine Runs.sN 11 (c' := (77, [.ref 92, .int a1, vU], [.int (I 92 3), .ref 92], (zS (up2 I 92 4 ((I 92 4) ||| (1 <<< (a1 &&& 31)))) J tg))) rfl ?_
    by_cases c4 : (I 92 3) = 0
    · rw [if_pos c4] at h
      refine Runs.brT (P := (I 92 3) = 0) (a := 103) (b := 80) (L := [.ref 92, .int a1, vU]) (S := [.ref 92]) (z := (zS (up2 I 92 4 ((I 92 4) ||| (1 <<< (a1 &&& 31)))) J tg)) rfl c4 ?_
      refine Runs.sN 4 (c' := (109, [.ref 92, .int a1, .int 0], [], (zS (up2 (up2 I 92 4 ((I 92 4) ||| (1 <<< (a1 &&& 31)))) 92 3 0) J tg))) rfl ?_
      exact h
    · rw [if_neg c4] at h
      refine Runs.brF (P := (I 92 3) = 0) (a := 103) (b := 80) (L := [.ref 92, .int a1, vU]) (S := [.ref 92]) (z := (zS (up2 I 92 4 ((I 92 4) ||| (1 <<< (a1 &&& 31)))) J tg)) rfl c4 ?_
      refine Runs.sN 4 (c' := (88, [.ref 92, .int a1, vU], [.int a1, .ref 77, .ref 92], (zS (up2 I 92 4 ((I 92 4) ||| (1 <<< (a1 &&& 31)))) J tg))) rfl ?_
      obtain ⟨c5, h⟩ := h
      refine Runs.to (c' := (89, [.ref 92, .int a1, vU], [.int (I 77 ((a1).toNatClampNeg)), .ref 92], (zS (up2 I 92 4 ((I 92 4) ||| (1 <<< (a1 &&& 31)))) J tg))) (Runs.ild rfl (show (77 : Nat) < 114 by decide) rfl c5) ?_
      refine Runs.sN 3 (c' := (96, [.ref 92, .int a1, vU], [.int (I 7 0), .int (I 77 ((a1).toNatClampNeg)), .ref 92], (zS (up2 I 92 4 ((I 92 4) ||| (1 <<< (a1 &&& 31)))) J tg))) rfl ?_
      by_cases c6 : (I 7 0) < (I 77 ((a1).toNatClampNeg))
      · rw [if_pos c6] at h
        refine Runs.brT (P := (I 7 0) < (I 77 ((a1).toNatClampNeg))) (a := 103) (b := 99) (L := [.ref 92, .int a1, vU]) (S := [.ref 92]) (z := (zS (up2 I 92 4 ((I 92 4) ||| (1 <<< (a1 &&& 31)))) J tg)) rfl c6 ?_
        refine Runs.sN 4 (c' := (109, [.ref 92, .int a1, .int 0], [], (zS (up2 (up2 I 92 4 ((I 92 4) ||| (1 <<< (a1 &&& 31)))) 92 3 0) J tg))) rfl ?_
        exact h
      · rw [if_neg c6] at h
        refine Runs.brF (P := (I 7 0) < (I 77 ((a1).toNatClampNeg))) (a := 103) (b := 99) (L := [.ref 92, .int a1, vU]) (S := [.ref 92]) (z := (zS (up2 I 92 4 ((I 92 4) ||| (1 <<< (a1 &&& 31)))) J tg)) rfl c6 ?_
        refine Runs.sN 5 (c' := (109, [.ref 92, .int a1, .int 0], [], (zS (up2 (up2 I 92 4 ((I 92 4) ||| (1 <<< (a1 &&& 31)))) 92 3 1) J tg))) rfl ?_
        exact h
theorem sg_52_7 {L d : Nat} {xs : Nat → Int32} (I : Nat → Nat → Int32) (J : Nat → Nat → Int64) (tg : Option Nat) (x1 : Int32) (x2 : Int32) {r : Option Value × SS} (h : ((if (I 1 1) ≤ x2 then (r = (none, (zS I J tg))) else (¬ (x2 < 0 ∨ 12 ≤ (x2).toNatClampNeg) ∧ (if (I 7 0) < (I 77 ((x2).toNatClampNeg)) then (Runs (GW L xs) (d + 1) 52 (7, [.ref 92, .int x1, .int (x2 + 1)], [], (zS (up2 I 92 5 ((I 92 5) ||| 0)) J tg)) r) else (Runs (GW L xs) (d + 1) 52 (7, [.ref 92, .int x1, .int (x2 + 1)], [], (zS (up2 I 92 5 ((I 92 5) ||| (1 <<< (x2 &&& 31)))) J tg)) r)))))) : Runs (GW L xs) (d + 1) 52 (7, [.ref 92, .int x1, .int x2], [], (zS I J tg)) r := by
  refine Runs.sN 4 (c' := (15, [.ref 92, .int x1, .int x2], [.int (I 1 1), .int x2], (zS I J tg))) rfl ?_
  by_cases c1 : (I 1 1) ≤ x2
  · rw [if_pos c1] at h
    refine Runs.brT (P := (I 1 1) ≤ x2) (a := 59) (b := 18) (L := [.ref 92, .int x1, .int x2]) (S := []) (z := (zS I J tg)) rfl c1 ?_
    subst h
    exact Runs.rt rfl
  · rw [if_neg c1] at h
    refine Runs.brF (P := (I 1 1) ≤ x2) (a := 59) (b := 18) (L := [.ref 92, .int x1, .int x2]) (S := []) (z := (zS I J tg)) rfl c1 ?_
    refine Runs.sN 7 (c' := (31, [.ref 92, .int x1, .int x2], [.int x2, .ref 77, .int (I 92 5), .ref 92], (zS I J tg))) rfl ?_
    obtain ⟨c2, h⟩ := h
    refine Runs.to (c' := (32, [.ref 92, .int x1, .int x2], [.int (I 77 ((x2).toNatClampNeg)), .int (I 92 5), .ref 92], (zS I J tg))) (Runs.ild rfl (show (77 : Nat) < 114 by decide) rfl c2) ?_
    refine Runs.sN 3 (c' := (39, [.ref 92, .int x1, .int x2], [.int (I 7 0), .int (I 77 ((x2).toNatClampNeg)), .int (I 92 5), .ref 92], (zS I J tg))) rfl ?_
    by_cases c3 : (I 7 0) < (I 77 ((x2).toNatClampNeg))
    · rw [if_pos c3] at h
      refine Runs.brT (P := (I 7 0) < (I 77 ((x2).toNatClampNeg))) (a := 48) (b := 42) (L := [.ref 92, .int x1, .int x2]) (S := [.int (I 92 5), .ref 92]) (z := (zS I J tg)) rfl c3 ?_
      refine Runs.sN 5 (c' := (7, [.ref 92, .int x1, .int (x2 + 1)], [], (zS (up2 I 92 5 ((I 92 5) ||| 0)) J tg))) rfl ?_
      exact h
    · rw [if_neg c3] at h
      refine Runs.brF (P := (I 7 0) < (I 77 ((x2).toNatClampNeg))) (a := 48) (b := 42) (L := [.ref 92, .int x1, .int x2]) (S := [.int (I 92 5), .ref 92]) (z := (zS I J tg)) rfl c3 ?_
      refine Runs.sN 8 (c' := (7, [.ref 92, .int x1, .int (x2 + 1)], [], (zS (up2 I 92 5 ((I 92 5) ||| (1 <<< (x2 &&& 31)))) J tg))) rfl ?_
      exact h
theorem sg_52_109 {L d : Nat} {xs : Nat → Int32} (I : Nat → Nat → Int32) (J : Nat → Nat → Int64) (tg : Option Nat) (x1 : Int32) (x2 : Int32) {r : Option Value × SS} (h : ((if (I 1 1) ≤ x2 then (r = (none, (zS I J tg))) else ((if x2 = x1 then (Runs (GW L xs) (d + 1) 52 (109, [.ref 92, .int x1, .int (x2 + 1)], [], (zS I J tg)) r) else (∃ (v1 : Int32) (I2 : Nat → Nat → Int32), Runs (GW L xs) d 100 (0, [.ref 75, .int ((1 <<< (x1 &&& 31)) ||| (1 <<< (x2 &&& 31)))], [], (zS I J tg)) ((some (.int v1)), (zS I2 J tg)) ∧ (if v1 = x1 then (Runs (GW L xs) (d + 1) 52 (109, [.ref 92, .int x1, .int (x2 + 1)], [], (zS I2 J tg)) r) else (Runs (GW L xs) (d + 1) 52 (109, [.ref 92, .int x1, .int (x2 + 1)], [], (zS (up2 I2 92 5 ((I2 92 5) ||| (1 <<< (x2 &&& 31)))) J tg)) r)))))))) : Runs (GW L xs) (d + 1) 52 (109, [.ref 92, .int x1, .int x2], [], (zS I J tg)) r := by
  refine Runs.sN 4 (c' := (117, [.ref 92, .int x1, .int x2], [.int (I 1 1), .int x2], (zS I J tg))) rfl ?_
  by_cases c3 : (I 1 1) ≤ x2
  · rw [if_pos c3] at h
    refine Runs.brT (P := (I 1 1) ≤ x2) (a := 161) (b := 120) (L := [.ref 92, .int x1, .int x2]) (S := []) (z := (zS I J tg)) rfl c3 ?_
    subst h
    exact Runs.rt rfl
  · rw [if_neg c3] at h
    refine Runs.brF (P := (I 1 1) ≤ x2) (a := 161) (b := 120) (L := [.ref 92, .int x1, .int x2]) (S := []) (z := (zS I J tg)) rfl c3 ?_
    refine Runs.sN 2 (c' := (122, [.ref 92, .int x1, .int x2], [.int x1, .int x2], (zS I J tg))) rfl ?_
    by_cases c4 : x2 = x1
    · rw [if_pos c4] at h
      refine Runs.brT (P := x2 = x1) (a := 155) (b := 125) (L := [.ref 92, .int x1, .int x2]) (S := []) (z := (zS I J tg)) rfl c4 ?_
      refine Runs.sN 2 (c' := (109, [.ref 92, .int x1, .int (x2 + 1)], [], (zS I J tg))) rfl ?_
      exact h
    · rw [if_neg c4] at h
      refine Runs.brF (P := x2 = x1) (a := 155) (b := 125) (L := [.ref 92, .int x1, .int x2]) (S := []) (z := (zS I J tg)) rfl c4 ?_
      refine Runs.sN 9 (c' := (136, [.ref 92, .int x1, .int x2], [.int ((1 <<< (x1 &&& 31)) ||| (1 <<< (x2 &&& 31))), .ref 75], (zS I J tg))) rfl ?_
      obtain ⟨v1, I2, c5, h⟩ := h
      refine Runs.cl (cm := 100) (as := [.ref 75, .int ((1 <<< (x1 &&& 31)) ||| (1 <<< (x2 &&& 31)))]) (rest := []) (r1 := ((some (.int v1)), (zS I2 J tg))) rfl (Nat.le_of_ble_eq_true rfl) c5 ?_
      refine Runs.as (c' := (139, [.ref 92, .int x1, .int x2], [.int v1], (zS I2 J tg))) rfl ?_
      refine Runs.sN 1 (c' := (140, [.ref 92, .int x1, .int x2], [.int x1, .int v1], (zS I2 J tg))) rfl ?_
      by_cases c6 : v1 = x1
      · rw [if_pos c6] at h
        refine Runs.brT (P := v1 = x1) (a := 155) (b := 143) (L := [.ref 92, .int x1, .int x2]) (S := []) (z := (zS I2 J tg)) rfl c6 ?_
        refine Runs.sN 2 (c' := (109, [.ref 92, .int x1, .int (x2 + 1)], [], (zS I2 J tg))) rfl ?_
        exact h
      · rw [if_neg c6] at h
        refine Runs.brF (P := v1 = x1) (a := 155) (b := 143) (L := [.ref 92, .int x1, .int x2]) (S := []) (z := (zS I2 J tg)) rfl c6 ?_
        refine Runs.sN 10 (c' := (109, [.ref 92, .int x1, .int (x2 + 1)], [], (zS (up2 I2 92 5 ((I2 92 5) ||| (1 <<< (x2 &&& 31)))) J tg))) rfl ?_
        exact h
-- X6_free 
theorem sg_53 {L d : Nat} {xs : Nat → Int32} (I : Nat → Nat → Int32) (J : Nat → Nat → Int64) (tg : Option Nat) {r : Option Value × SS} (h : (∃ (v3 : Int32) (I4 : Nat → Nat → Int32), Runs (GW L xs) d 48 (0, [.ref 1], [], (zS I J tg)) ((some (.int v3)), (zS I4 J tg)) ∧ r = (some (.int ((v3 &&& ((I4 92 4) ^^^ (-1))) &&& ((I4 92 5) ^^^ (-1)))), (zS I4 J tg)))) : Runs (GW L xs) (d + 1) 53 (0, [.ref 92], [], (zS I J tg)) r := by
  refine Runs.sN 2 (c' := (4, [.ref 92], [.ref 1], (zS I J tg))) rfl ?_
  obtain ⟨v3, I4, c5, h⟩ := h
  refine Runs.cl (cm := 48) (as := [.ref 1]) (rest := []) (r1 := ((some (.int v3)), (zS I4 J tg))) rfl (Nat.le_of_ble_eq_true rfl) c5 ?_
  refine Runs.as (c' := (7, [.ref 92], [.int v3], (zS I4 J tg))) rfl ?_
  refine Runs.sN 10 (c' := (21, [.ref 92], [.int ((v3 &&& ((I4 92 4) ^^^ (-1))) &&& ((I4 92 5) ^^^ (-1)))], (zS I4 J tg))) rfl ?_
  subst h
  exact Runs.rt rfl
-- X6_count 
theorem sg_54 {L d : Nat} {xs : Nat → Int32} (I : Nat → Nat → Int32) (J : Nat → Nat → Int64) (tg : Option Nat) {r : Option Value × SS} (h : ((if (I 92 3) = 0 then (r = (some (.int 0), (zS I J tg))) else (∃ (v5 : Int32) (I6 : Nat → Nat → Int32), Runs (GW L xs) d 53 (0, [.ref 92], [], (zS I J tg)) ((some (.int v5)), (zS I6 J tg)) ∧ ∃ (v7 : Int32) (I8 : Nat → Nat → Int32), Runs (GW L xs) d 300 (0, [.int v5], [], (zS I6 J tg)) ((some (.int v7)), (zS I8 J tg)) ∧ r = (some (.int (1 <<< (v7 &&& 31))), (zS I8 J tg)))))) : Runs (GW L xs) (d + 1) 54 (0, [.ref 92], [], (zS I J tg)) r := by
  refine Runs.sN 2 (c' := (4, [.ref 92], [.int (I 92 3)], (zS I J tg))) rfl ?_
  by_cases c9 : (I 92 3) = 0
  · rw [if_pos c9] at h
    refine Runs.brT (P := (I 92 3) = 0) (a := 19) (b := 7) (L := [.ref 92]) (S := []) (z := (zS I J tg)) rfl c9 ?_
    refine Runs.sN 1 (c' := (20, [.ref 92], [.int 0], (zS I J tg))) rfl ?_
    subst h
    exact Runs.rt rfl
  · rw [if_neg c9] at h
    refine Runs.brF (P := (I 92 3) = 0) (a := 19) (b := 7) (L := [.ref 92]) (S := []) (z := (zS I J tg)) rfl c9 ?_
    refine Runs.sN 2 (c' := (9, [.ref 92], [.ref 92, .int 1], (zS I J tg))) rfl ?_
    obtain ⟨v5, I6, c10, h⟩ := h
    refine Runs.cl (cm := 53) (as := [.ref 92]) (rest := [.int 1]) (r1 := ((some (.int v5)), (zS I6 J tg))) rfl (Nat.le_of_ble_eq_true rfl) c10 ?_
    refine Runs.as (c' := (12, [.ref 92], [.int v5, .int 1], (zS I6 J tg))) rfl ?_
    obtain ⟨v7, I8, c11, h⟩ := h
    refine Runs.cl (cm := 300) (as := [.int v5]) (rest := [.int 1]) (r1 := ((some (.int v7)), (zS I8 J tg))) rfl (Nat.le_of_ble_eq_true rfl) c11 ?_
    refine Runs.as (c' := (15, [.ref 92], [.int v7, .int 1], (zS I8 J tg))) rfl ?_
    refine Runs.sN 2 (c' := (20, [.ref 92], [.int (1 <<< (v7 &&& 31))], (zS I8 J tg))) rfl ?_
    subst h
    exact Runs.rt rfl
-- X6_member 
theorem sg_55 {L d : Nat} {xs : Nat → Int32} (I : Nat → Nat → Int32) (J : Nat → Nat → Int64) (tg : Option Nat) (a1 : Int32) {r : Option Value × SS} (h : (∃ (v5 : Int32) (I6 : Nat → Nat → Int32), Runs (GW L xs) d 53 (0, [.ref 92], [], (zS I J tg)) ((some (.int v5)), (zS I6 J tg)) ∧ Runs (GW L xs) (d + 1) 55 (16, [.ref 92, .int a1, .int (I 92 4), .int v5, .int a1, .int 0], [], (zS I6 J tg)) r)) : Runs (GW L xs) (d + 1) 55 (0, [.ref 92, .int a1, vU, vU, vU, vU], [], (zS I J tg)) r := by
  refine Runs.sN 4 (c' := (6, [.ref 92, .int a1, .int (I 92 4), vU, vU, vU], [.ref 92], (zS I J tg))) rfl ?_
  obtain ⟨v5, I6, c7, h⟩ := h
  refine Runs.cl (cm := 53) (as := [.ref 92]) (rest := []) (r1 := ((some (.int v5)), (zS I6 J tg))) rfl (Nat.le_of_ble_eq_true rfl) c7 ?_
  refine Runs.as (c' := (9, [.ref 92, .int a1, .int (I 92 4), vU, vU, vU], [.int v5], (zS I6 J tg))) rfl ?_
  refine Runs.sN 5 (c' := (16, [.ref 92, .int a1, .int (I 92 4), .int v5, .int a1, .int 0], [], (zS I6 J tg))) rfl ?_
  exact h
theorem sg_55_16 {L d : Nat} {xs : Nat → Int32} (I : Nat → Nat → Int32) (J : Nat → Nat → Int64) (tg : Option Nat) (x1 : Int32) (x2 : Int32) (x3 : Int32) (x4 : Int32) (x5 : Int32) {r : Option Value × SS} (h : ((if 12 ≤ x5 then (r = (some (.int x2), (zS I J tg))) else ((if ((x3 >>> (x5 &&& 31)) &&& 1) = 0 then (Runs (GW L xs) (d + 1) 55 (16, [.ref 92, .int x1, .int x2, .int x3, .int x4, .int (x5 + 1)], [], (zS I J tg)) r) else (Runs (GW L xs) (d + 1) 55 (16, [.ref 92, .int x1, .int (x2 ||| ((x4 &&& 1) <<< (x5 &&& 31))), .int x3, .int (x4 >>> (1 &&& 31)), .int (x5 + 1)], [], (zS I J tg)) r)))))) : Runs (GW L xs) (d + 1) 55 (16, [.ref 92, .int x1, .int x2, .int x3, .int x4, .int x5], [], (zS I J tg)) r := by
  refine Runs.sN 2 (c' := (20, [.ref 92, .int x1, .int x2, .int x3, .int x4, .int x5], [.int 12, .int x5], (zS I J tg))) rfl ?_
  by_cases c1 : 12 ≤ x5
  · rw [if_pos c1] at h
    refine Runs.brT (P := 12 ≤ x5) (a := 54) (b := 23) (L := [.ref 92, .int x1, .int x2, .int x3, .int x4, .int x5]) (S := []) (z := (zS I J tg)) rfl c1 ?_
    refine Runs.sN 1 (c' := (55, [.ref 92, .int x1, .int x2, .int x3, .int x4, .int x5], [.int x2], (zS I J tg))) rfl ?_
    subst h
    exact Runs.rt rfl
  · rw [if_neg c1] at h
    refine Runs.brF (P := 12 ≤ x5) (a := 54) (b := 23) (L := [.ref 92, .int x1, .int x2, .int x3, .int x4, .int x5]) (S := []) (z := (zS I J tg)) rfl c1 ?_
    refine Runs.sN 5 (c' := (29, [.ref 92, .int x1, .int x2, .int x3, .int x4, .int x5], [.int ((x3 >>> (x5 &&& 31)) &&& 1)], (zS I J tg))) rfl ?_
    by_cases c2 : ((x3 >>> (x5 &&& 31)) &&& 1) = 0
    · rw [if_pos c2] at h
      refine Runs.brT (P := ((x3 >>> (x5 &&& 31)) &&& 1) = 0) (a := 48) (b := 32) (L := [.ref 92, .int x1, .int x2, .int x3, .int x4, .int x5]) (S := []) (z := (zS I J tg)) rfl c2 ?_
      refine Runs.sN 2 (c' := (16, [.ref 92, .int x1, .int x2, .int x3, .int x4, .int (x5 + 1)], [], (zS I J tg))) rfl ?_
      exact h
    · rw [if_neg c2] at h
      refine Runs.brF (P := ((x3 >>> (x5 &&& 31)) &&& 1) = 0) (a := 48) (b := 32) (L := [.ref 92, .int x1, .int x2, .int x3, .int x4, .int x5]) (S := []) (z := (zS I J tg)) rfl c2 ?_
      refine Runs.sN 14 (c' := (16, [.ref 92, .int x1, .int (x2 ||| ((x4 &&& 1) <<< (x5 &&& 31))), .int x3, .int (x4 >>> (1 &&& 31)), .int (x5 + 1)], [], (zS I J tg))) rfl ?_
      exact h
-- X6_sureness 
theorem sg_56 {L d : Nat} {xs : Nat → Int32} (I : Nat → Nat → Int32) (J : Nat → Nat → Int64) (tg : Option Nat) (a1 : Int32) {r : Option Value × SS} (h : ((if (I 92 3) = 0 then (r = (some (.int 0), (zS I J tg))) else ((if (((I 92 5) >>> (a1 &&& 31)) &&& 1) = 0 then ((if (((I 92 4) >>> (a1 &&& 31)) &&& 1) = 0 then (r = (some (.int 1), (zS I J tg))) else (r = (some (.int 2), (zS I J tg))))) else (r = (some (.int 0), (zS I J tg)))))))) : Runs (GW L xs) d 56 (0, [.ref 92, .int a1], [], (zS I J tg)) r := by
  refine Runs.sN 2 (c' := (4, [.ref 92, .int a1], [.int (I 92 3)], (zS I J tg))) rfl ?_
  by_cases c1 : (I 92 3) = 0
  · rw [if_pos c1] at h
    refine Runs.brT (P := (I 92 3) = 0) (a := 18) (b := 7) (L := [.ref 92, .int a1]) (S := []) (z := (zS I J tg)) rfl c1 ?_
    refine Runs.sN 1 (c' := (19, [.ref 92, .int a1], [.int 0], (zS I J tg))) rfl ?_
    subst h
    exact Runs.rt rfl
  · rw [if_neg c1] at h
    refine Runs.brF (P := (I 92 3) = 0) (a := 18) (b := 7) (L := [.ref 92, .int a1]) (S := []) (z := (zS I J tg)) rfl c1 ?_
    refine Runs.sN 6 (c' := (15, [.ref 92, .int a1], [.int (((I 92 5) >>> (a1 &&& 31)) &&& 1)], (zS I J tg))) rfl ?_
    by_cases c2 : (((I 92 5) >>> (a1 &&& 31)) &&& 1) = 0
    · rw [if_pos c2] at h
      refine Runs.brT (P := (((I 92 5) >>> (a1 &&& 31)) &&& 1) = 0) (a := 20) (b := 18) (L := [.ref 92, .int a1]) (S := []) (z := (zS I J tg)) rfl c2 ?_
      refine Runs.sN 6 (c' := (28, [.ref 92, .int a1], [.int (((I 92 4) >>> (a1 &&& 31)) &&& 1)], (zS I J tg))) rfl ?_
      by_cases c3 : (((I 92 4) >>> (a1 &&& 31)) &&& 1) = 0
      · rw [if_pos c3] at h
        refine Runs.brT (P := (((I 92 4) >>> (a1 &&& 31)) &&& 1) = 0) (a := 35) (b := 31) (L := [.ref 92, .int a1]) (S := []) (z := (zS I J tg)) rfl c3 ?_
        refine Runs.sN 1 (c' := (36, [.ref 92, .int a1], [.int 1], (zS I J tg))) rfl ?_
        subst h
        exact Runs.rt rfl
      · rw [if_neg c3] at h
        refine Runs.brF (P := (((I 92 4) >>> (a1 &&& 31)) &&& 1) = 0) (a := 35) (b := 31) (L := [.ref 92, .int a1]) (S := []) (z := (zS I J tg)) rfl c3 ?_
        refine Runs.sN 2 (c' := (36, [.ref 92, .int a1], [.int 2], (zS I J tg))) rfl ?_
        subst h
        exact Runs.rt rfl
    · rw [if_neg c2] at h
      refine Runs.brF (P := (((I 92 5) >>> (a1 &&& 31)) &&& 1) = 0) (a := 20) (b := 18) (L := [.ref 92, .int a1]) (S := []) (z := (zS I J tg)) rfl c2 ?_
      refine Runs.sN 1 (c' := (19, [.ref 92, .int a1], [.int 0], (zS I J tg))) rfl ?_
      subst h
      exact Runs.rt rfl
-- X6_seekParting 
theorem sg_57 {L d : Nat} {xs : Nat → Int32} (I : Nat → Nat → Int32) (J : Nat → Nat → Int64) (tg : Option Nat) (a1 : Int32) {r : Option Value × SS} (h : ((if (I 92 3) = 0 then (r = (none, (zS (up2 (up2 I 92 6 (-1)) 92 7 1) J tg))) else (Runs (GW L xs) (d + 1) 57 (20, [.ref 92, .int a1, .int 0, vU], [], (zS (up2 (up2 I 92 6 (-1)) 92 7 1) J tg)) r)))) : Runs (GW L xs) (d + 1) 57 (0, [.ref 92, .int a1, vU, vU], [], (zS I J tg)) r := by
  refine Runs.sN 8 (c' := (14, [.ref 92, .int a1, vU, vU], [.int (I 92 3)], (zS (up2 (up2 I 92 6 (-1)) 92 7 1) J tg))) rfl ?_
  by_cases c4 : (I 92 3) = 0
  · rw [if_pos c4] at h
    refine Runs.brT (P := (I 92 3) = 0) (a := 17) (b := 18) (L := [.ref 92, .int a1, vU, vU]) (S := []) (z := (zS (up2 (up2 I 92 6 (-1)) 92 7 1) J tg)) rfl c4 ?_
    subst h
    exact Runs.rt rfl
  · rw [if_neg c4] at h
    refine Runs.brF (P := (I 92 3) = 0) (a := 17) (b := 18) (L := [.ref 92, .int a1, vU, vU]) (S := []) (z := (zS (up2 (up2 I 92 6 (-1)) 92 7 1) J tg)) rfl c4 ?_
    refine Runs.sN 2 (c' := (20, [.ref 92, .int a1, .int 0, vU], [], (zS (up2 (up2 I 92 6 (-1)) 92 7 1) J tg))) rfl ?_
    exact h
theorem sg_57_20 {L d : Nat} {xs : Nat → Int32} (I : Nat → Nat → Int32) (J : Nat → Nat → Int64) (tg : Option Nat) (x1 : Int32) (x2 : Int32) {r : Option Value × SS} (h : ((if (I 1 0) ≤ x2 then (r = (none, (zS I J tg))) else (∃ (I1 : Nat → Nat → Int32), Runs (GW L xs) d 92 (0, [.ref 75, .int x2, .int x1, vU], [], (zS I J tg)) (none, (zS I1 J tg)) ∧ ∃ (v2 : Int32) (I3 : Nat → Nat → Int32), Runs (GW L xs) d 58 (0, [.ref 92, vU, vU], [], (zS I1 J tg)) ((some (.int v2)), (zS I3 J tg)) ∧ (if v2 ≤ (I3 92 7) then (Runs (GW L xs) (d + 1) 57 (20, [.ref 92, .int x1, .int (x2 + 1), vU], [], (zS I3 J tg)) r) else (Runs (GW L xs) (d + 1) 57 (20, [.ref 92, .int x1, .int (x2 + 1), vU], [], (zS (up2 (up2 I3 92 7 v2) 92 6 x2) J tg)) r)))))) : Runs (GW L xs) (d + 1) 57 (20, [.ref 92, .int x1, .int x2, vU], [], (zS I J tg)) r := by
  refine Runs.sN 4 (c' := (28, [.ref 92, .int x1, .int x2, vU], [.int (I 1 0), .int x2], (zS I J tg))) rfl ?_
  by_cases c4 : (I 1 0) ≤ x2
  · rw [if_pos c4] at h
    refine Runs.brT (P := (I 1 0) ≤ x2) (a := 69) (b := 31) (L := [.ref 92, .int x1, .int x2, vU]) (S := []) (z := (zS I J tg)) rfl c4 ?_
    subst h
    exact Runs.rt rfl
  · rw [if_neg c4] at h
    refine Runs.brF (P := (I 1 0) ≤ x2) (a := 69) (b := 31) (L := [.ref 92, .int x1, .int x2, vU]) (S := []) (z := (zS I J tg)) rfl c4 ?_
    refine Runs.sN 4 (c' := (37, [.ref 92, .int x1, .int x2, vU], [.int x1, .int x2, .ref 75], (zS I J tg))) rfl ?_
    obtain ⟨I1, c5, h⟩ := h
    refine Runs.cl (cm := 92) (as := [.ref 75, .int x2, .int x1]) (rest := []) (r1 := (none, (zS I1 J tg))) rfl (Nat.le_of_ble_eq_true rfl) c5 ?_
    refine Runs.as (c' := (40, [.ref 92, .int x1, .int x2, vU], [], (zS I1 J tg))) rfl ?_
    refine Runs.sN 1 (c' := (41, [.ref 92, .int x1, .int x2, vU], [.ref 92], (zS I1 J tg))) rfl ?_
    obtain ⟨v2, I3, c6, h⟩ := h
    refine Runs.cl (cm := 58) (as := [.ref 92]) (rest := []) (r1 := ((some (.int v2)), (zS I3 J tg))) rfl (Nat.le_of_ble_eq_true rfl) c6 ?_
    refine Runs.as (c' := (44, [.ref 92, .int x1, .int x2, vU], [.int v2], (zS I3 J tg))) rfl ?_
    refine Runs.sN 4 (c' := (50, [.ref 92, .int x1, .int x2, .int v2], [.int (I3 92 7), .int v2], (zS I3 J tg))) rfl ?_
    by_cases c7 : v2 ≤ (I3 92 7)
    · rw [if_pos c7] at h
      refine Runs.brT (P := v2 ≤ (I3 92 7)) (a := 63) (b := 53) (L := [.ref 92, .int x1, .int x2, .int v2]) (S := []) (z := (zS I3 J tg)) rfl c7 ?_
      refine Runs.sN 2 (c' := (20, [.ref 92, .int x1, .int (x2 + 1), .int v2], [], (zS I3 J tg))) rfl ?_
      exact Runs.weak (L := [.ref 92, .int x1, .int (x2 + 1), vU]) (Lle.k (Lle.k (Lle.k (Lle.u Lle.n)))) h
    · rw [if_neg c7] at h
      refine Runs.brF (P := v2 ≤ (I3 92 7)) (a := 63) (b := 53) (L := [.ref 92, .int x1, .int x2, .int v2]) (S := []) (z := (zS I3 J tg)) rfl c7 ?_
      refine Runs.sN 8 (c' := (20, [.ref 92, .int x1, .int (x2 + 1), .int v2], [], (zS (up2 (up2 I3 92 7 v2) 92 6 x2) J tg))) rfl ?_
      exact Runs.weak (L := [.ref 92, .int x1, .int (x2 + 1), vU]) (Lle.k (Lle.k (Lle.k (Lle.u Lle.n)))) h
-- X6_countWays 
theorem sg_58 {L d : Nat} {xs : Nat → Int32} (I : Nat → Nat → Int32) (J : Nat → Nat → Int64) (tg : Option Nat) {r : Option Value × SS} (h : (∃ (v7 : Int32) (I8 : Nat → Nat → Int32), Runs (GW L xs) d 100 (0, [.ref 75, .int (I 92 4)], [], (zS I J tg)) ((some (.int v7)), (zS I8 J tg)) ∧ (if v7 = (-1) then (Runs (GW L xs) (d + 1) 58 (23, [.ref 92, .int 1, .int 0], [], (zS I8 J tg)) r) else (Runs (GW L xs) (d + 1) 58 (23, [.ref 92, .int 0, .int 0], [], (zS I8 J tg)) r)))) : Runs (GW L xs) (d + 1) 58 (0, [.ref 92, vU, vU], [], (zS I J tg)) r := by
  refine Runs.sN 4 (c' := (8, [.ref 92, vU, vU], [.int (I 92 4), .ref 75], (zS I J tg))) rfl ?_
  obtain ⟨v7, I8, c9, h⟩ := h
  refine Runs.cl (cm := 100) (as := [.ref 75, .int (I 92 4)]) (rest := []) (r1 := ((some (.int v7)), (zS I8 J tg))) rfl (Nat.le_of_ble_eq_true rfl) c9 ?_
  refine Runs.as (c' := (11, [.ref 92, vU, vU], [.int v7], (zS I8 J tg))) rfl ?_
  refine Runs.sN 1 (c' := (12, [.ref 92, vU, vU], [.int (-1), .int v7], (zS I8 J tg))) rfl ?_
  by_cases c10 : v7 = (-1)
  · rw [if_pos c10] at h
    refine Runs.brT (P := v7 = (-1)) (a := 15) (b := 19) (L := [.ref 92, vU, vU]) (S := []) (z := (zS I8 J tg)) rfl c10 ?_
    refine Runs.sN 5 (c' := (23, [.ref 92, .int 1, .int 0], [], (zS I8 J tg))) rfl ?_
    exact h
  · rw [if_neg c10] at h
    refine Runs.brF (P := v7 = (-1)) (a := 15) (b := 19) (L := [.ref 92, vU, vU]) (S := []) (z := (zS I8 J tg)) rfl c10 ?_
    refine Runs.sN 4 (c' := (23, [.ref 92, .int 0, .int 0], [], (zS I8 J tg))) rfl ?_
    exact h
theorem sg_58_23 {L d : Nat} {xs : Nat → Int32} (I : Nat → Nat → Int32) (J : Nat → Nat → Int64) (tg : Option Nat) (x1 : Int32) (x2 : Int32) {r : Option Value × SS} (h : ((if (I 1 1) ≤ x2 then (r = (some (.int x1), (zS I J tg))) else ((if (((I 92 5) >>> (x2 &&& 31)) &&& 1) = 0 then (∃ (v1 : Int32) (I2 : Nat → Nat → Int32), Runs (GW L xs) d 100 (0, [.ref 75, .int ((I 92 4) ||| (1 <<< (x2 &&& 31)))], [], (zS I J tg)) ((some (.int v1)), (zS I2 J tg)) ∧ (if v1 = x2 then (Runs (GW L xs) (d + 1) 58 (23, [.ref 92, .int (x1 + 1), .int (x2 + 1)], [], (zS I2 J tg)) r) else (Runs (GW L xs) (d + 1) 58 (23, [.ref 92, .int x1, .int (x2 + 1)], [], (zS I2 J tg)) r))) else (Runs (GW L xs) (d + 1) 58 (23, [.ref 92, .int x1, .int (x2 + 1)], [], (zS I J tg)) r)))))) : Runs (GW L xs) (d + 1) 58 (23, [.ref 92, .int x1, .int x2], [], (zS I J tg)) r := by
  refine Runs.sN 4 (c' := (31, [.ref 92, .int x1, .int x2], [.int (I 1 1), .int x2], (zS I J tg))) rfl ?_
  by_cases c3 : (I 1 1) ≤ x2
  · rw [if_pos c3] at h
    refine Runs.brT (P := (I 1 1) ≤ x2) (a := 73) (b := 34) (L := [.ref 92, .int x1, .int x2]) (S := []) (z := (zS I J tg)) rfl c3 ?_
    refine Runs.sN 1 (c' := (74, [.ref 92, .int x1, .int x2], [.int x1], (zS I J tg))) rfl ?_
    subst h
    exact Runs.rt rfl
  · rw [if_neg c3] at h
    refine Runs.brF (P := (I 1 1) ≤ x2) (a := 73) (b := 34) (L := [.ref 92, .int x1, .int x2]) (S := []) (z := (zS I J tg)) rfl c3 ?_
    refine Runs.sN 6 (c' := (42, [.ref 92, .int x1, .int x2], [.int (((I 92 5) >>> (x2 &&& 31)) &&& 1)], (zS I J tg))) rfl ?_
    by_cases c4 : (((I 92 5) >>> (x2 &&& 31)) &&& 1) = 0
    · rw [if_pos c4] at h
      refine Runs.brT (P := (((I 92 5) >>> (x2 &&& 31)) &&& 1) = 0) (a := 45) (b := 67) (L := [.ref 92, .int x1, .int x2]) (S := []) (z := (zS I J tg)) rfl c4 ?_
      refine Runs.sN 8 (c' := (57, [.ref 92, .int x1, .int x2], [.int ((I 92 4) ||| (1 <<< (x2 &&& 31))), .ref 75], (zS I J tg))) rfl ?_
      obtain ⟨v1, I2, c5, h⟩ := h
      refine Runs.cl (cm := 100) (as := [.ref 75, .int ((I 92 4) ||| (1 <<< (x2 &&& 31)))]) (rest := []) (r1 := ((some (.int v1)), (zS I2 J tg))) rfl (Nat.le_of_ble_eq_true rfl) c5 ?_
      refine Runs.as (c' := (60, [.ref 92, .int x1, .int x2], [.int v1], (zS I2 J tg))) rfl ?_
      refine Runs.sN 1 (c' := (61, [.ref 92, .int x1, .int x2], [.int x2, .int v1], (zS I2 J tg))) rfl ?_
      by_cases c6 : v1 = x2
      · rw [if_pos c6] at h
        refine Runs.brT (P := v1 = x2) (a := 64) (b := 67) (L := [.ref 92, .int x1, .int x2]) (S := []) (z := (zS I2 J tg)) rfl c6 ?_
        refine Runs.sN 3 (c' := (23, [.ref 92, .int (x1 + 1), .int (x2 + 1)], [], (zS I2 J tg))) rfl ?_
        exact h
      · rw [if_neg c6] at h
        refine Runs.brF (P := v1 = x2) (a := 64) (b := 67) (L := [.ref 92, .int x1, .int x2]) (S := []) (z := (zS I2 J tg)) rfl c6 ?_
        refine Runs.sN 2 (c' := (23, [.ref 92, .int x1, .int (x2 + 1)], [], (zS I2 J tg))) rfl ?_
        exact h
    · rw [if_neg c4] at h
      refine Runs.brF (P := (((I 92 5) >>> (x2 &&& 31)) &&& 1) = 0) (a := 45) (b := 67) (L := [.ref 92, .int x1, .int x2]) (S := []) (z := (zS I J tg)) rfl c4 ?_
      refine Runs.sN 2 (c' := (23, [.ref 92, .int x1, .int (x2 + 1)], [], (zS I J tg))) rfl ?_
      exact h
-- X7_forgetAll 
theorem sg_60 {L d : Nat} {xs : Nat → Int32} (I : Nat → Nat → Int32) (J : Nat → Nat → Int64) (tg : Option Nat) {r : Option Value × SS} (h : (∃ (I2 : Nat → Nat → Int32), Runs (GW L xs) d 301 (0, [.ref 71, .int (-1), vU, vU], [], (zS I J tg)) (none, (zS I2 J tg)) ∧ r = (none, (zS I2 J tg)))) : Runs (GW L xs) (d + 1) 60 (0, [.ref 70], [], (zS I J tg)) r := by
  refine Runs.sN 3 (c' := (5, [.ref 70], [.int (-1), .ref 71], (zS I J tg))) rfl ?_
  obtain ⟨I2, c3, h⟩ := h
  refine Runs.cl (cm := 301) (as := [.ref 71, .int (-1)]) (rest := []) (r1 := (none, (zS I2 J tg))) rfl (Nat.le_of_ble_eq_true rfl) c3 ?_
  refine Runs.as (c' := (8, [.ref 70], [], (zS I2 J tg))) rfl ?_
  subst h
  exact Runs.rt rfl
-- X7_forget 
theorem sg_61 {L d : Nat} {xs : Nat → Int32} (I : Nat → Nat → Int32) (J : Nat → Nat → Int64) (tg : Option Nat) (a1 : Int32) {r : Option Value × SS} (h : (Runs (GW L xs) d 61 (2, [.ref 70, .int a1, .int 0], [], (zS I J tg)) r)) : Runs (GW L xs) d 61 (0, [.ref 70, .int a1, vU], [], (zS I J tg)) r := by
  refine Runs.sN 2 (c' := (2, [.ref 70, .int a1, .int 0], [], (zS I J tg))) rfl ?_
  exact h
theorem sg_61_2 {L d : Nat} {xs : Nat → Int32} (I : Nat → Nat → Int32) (J : Nat → Nat → Int64) (tg : Option Nat) (x1 : Int32) (x2 : Int32) {r : Option Value × SS} (h : ((if 24 ≤ x2 then (r = (none, (zS I J tg))) else (¬ (((x1 * 24) + x2) < 0 ∨ 576 ≤ ((x1 * 24) + x2).toNatClampNeg) ∧ ¬ (((x2 * 24) + x1) < 0 ∨ 576 ≤ ((x2 * 24) + x1).toNatClampNeg) ∧ Runs (GW L xs) d 61 (2, [.ref 70, .int x1, .int (x2 + 1)], [], (zS (up2 (up2 I 71 (((x1 * 24) + x2).toNatClampNeg) (-1)) 71 (((x2 * 24) + x1).toNatClampNeg) (-1)) J tg)) r)))) : Runs (GW L xs) d 61 (2, [.ref 70, .int x1, .int x2], [], (zS I J tg)) r := by
  refine Runs.sN 2 (c' := (5, [.ref 70, .int x1, .int x2], [.int 24, .int x2], (zS I J tg))) rfl ?_
  by_cases c1 : 24 ≤ x2
  · rw [if_pos c1] at h
    refine Runs.brT (P := 24 ≤ x2) (a := 38) (b := 8) (L := [.ref 70, .int x1, .int x2]) (S := []) (z := (zS I J tg)) rfl c1 ?_
    subst h
    exact Runs.rt rfl
  · rw [if_neg c1] at h
    refine Runs.brF (P := 24 ≤ x2) (a := 38) (b := 8) (L := [.ref 70, .int x1, .int x2]) (S := []) (z := (zS I J tg)) rfl c1 ?_
    refine Runs.sN 8 (c' := (19, [.ref 70, .int x1, .int x2], [.int (-1), .int ((x1 * 24) + x2), .ref 71], (zS I J tg))) rfl ?_
    obtain ⟨c2, h⟩ := h
    refine Runs.to (c' := (20, [.ref 70, .int x1, .int x2], [], (zS (up2 I 71 (((x1 * 24) + x2).toNatClampNeg) (-1)) J tg))) (Runs.ist rfl (show (71 : Nat) < 114 by decide) rfl c2) ?_
    refine Runs.sN 8 (c' := (31, [.ref 70, .int x1, .int x2], [.int (-1), .int ((x2 * 24) + x1), .ref 71], (zS (up2 I 71 (((x1 * 24) + x2).toNatClampNeg) (-1)) J tg))) rfl ?_
    obtain ⟨c3, h⟩ := h
    refine Runs.to (c' := (32, [.ref 70, .int x1, .int x2], [], (zS (up2 (up2 I 71 (((x1 * 24) + x2).toNatClampNeg) (-1)) 71 (((x2 * 24) + x1).toNatClampNeg) (-1)) J tg))) (Runs.ist rfl (show (71 : Nat) < 114 by decide) rfl c3) ?_
    refine Runs.sN 2 (c' := (2, [.ref 70, .int x1, .int (x2 + 1)], [], (zS (up2 (up2 I 71 (((x1 * 24) + x2).toNatClampNeg) (-1)) 71 (((x2 * 24) + x1).toNatClampNeg) (-1)) J tg))) rfl ?_
    exact h
-- X7_between 
theorem sg_62 {L d : Nat} {xs : Nat → Int32} (I : Nat → Nat → Int32) (J : Nat → Nat → Int64) (tg : Option Nat) (a1 : Int32) (a2 : Int32) {r : Option Value × SS} (h : (¬ (((a1 * 24) + a2) < 0 ∨ 576 ≤ ((a1 * 24) + a2).toNatClampNeg) ∧ (if (I 71 (((a1 * 24) + a2).toNatClampNeg)) = (-1) then (¬ (a1 < 0 ∨ 24 ≤ (a1).toNatClampNeg) ∧ ¬ (a1 < 0 ∨ 24 ≤ (a1).toNatClampNeg) ∧ ∃ (v3 : Int32) (I4 : Nat → Nat → Int32), Runs (GW L xs) d 63 (0, [.ref 70, .ref 2, .int (a1 * 6), .int (I 3 ((a1).toNatClampNeg)), .int (I 4 ((a1).toNatClampNeg)), .int a2, vU], [], (zS I J tg)) ((some (.int v3)), (zS I4 J tg)) ∧ ¬ (((a1 * 24) + a2) < 0 ∨ 576 ≤ ((a1 * 24) + a2).toNatClampNeg) ∧ ¬ (((a1 * 24) + a2) < 0 ∨ 576 ≤ ((a1 * 24) + a2).toNatClampNeg) ∧ ¬ (((a2 * 24) + a1) < 0 ∨ 576 ≤ ((a2 * 24) + a1).toNatClampNeg) ∧ ¬ (((a1 * 24) + a2) < 0 ∨ 576 ≤ ((a1 * 24) + a2).toNatClampNeg) ∧ r = (some (.int ((up2 (up2 I4 71 (((a1 * 24) + a2).toNatClampNeg) v3) 71 (((a2 * 24) + a1).toNatClampNeg) ((up2 I4 71 (((a1 * 24) + a2).toNatClampNeg) v3) 71 (((a1 * 24) + a2).toNatClampNeg))) 71 (((a1 * 24) + a2).toNatClampNeg))), (zS (up2 (up2 I4 71 (((a1 * 24) + a2).toNatClampNeg) v3) 71 (((a2 * 24) + a1).toNatClampNeg) ((up2 I4 71 (((a1 * 24) + a2).toNatClampNeg) v3) 71 (((a1 * 24) + a2).toNatClampNeg))) J tg))) else (¬ (((a1 * 24) + a2) < 0 ∨ 576 ≤ ((a1 * 24) + a2).toNatClampNeg) ∧ r = (some (.int (I 71 (((a1 * 24) + a2).toNatClampNeg))), (zS I J tg)))))) : Runs (GW L xs) (d + 1) 62 (0, [.ref 70, .int a1, .int a2, vU], [], (zS I J tg)) r := by
  refine Runs.sN 9 (c' := (12, [.ref 70, .int a1, .int a2, .int ((a1 * 24) + a2)], [.int ((a1 * 24) + a2), .ref 71], (zS I J tg))) rfl ?_
  obtain ⟨c5, h⟩ := h
  refine Runs.to (c' := (13, [.ref 70, .int a1, .int a2, .int ((a1 * 24) + a2)], [.int (I 71 (((a1 * 24) + a2).toNatClampNeg))], (zS I J tg))) (Runs.ild rfl (show (71 : Nat) < 114 by decide) rfl c5) ?_
  refine Runs.sN 1 (c' := (14, [.ref 70, .int a1, .int a2, .int ((a1 * 24) + a2)], [.int (-1), .int (I 71 (((a1 * 24) + a2).toNatClampNeg))], (zS I J tg))) rfl ?_
  by_cases c6 : (I 71 (((a1 * 24) + a2).toNatClampNeg)) = (-1)
  · rw [if_pos c6] at h
    refine Runs.brT (P := (I 71 (((a1 * 24) + a2).toNatClampNeg)) = (-1)) (a := 17) (b := 74) (L := [.ref 70, .int a1, .int a2, .int ((a1 * 24) + a2)]) (S := []) (z := (zS I J tg)) rfl c6 ?_
    refine Runs.sN 14 (c' := (42, [.ref 70, .int a1, .int a2, .int ((a1 * 24) + a2)], [.int a1, .ref 3, .int (a1 * 6), .ref 2, .ref 70, .int ((a1 * 24) + a2), .ref 71], (zS I J tg))) rfl ?_
    obtain ⟨c7, h⟩ := h
    refine Runs.to (c' := (43, [.ref 70, .int a1, .int a2, .int ((a1 * 24) + a2)], [.int (I 3 ((a1).toNatClampNeg)), .int (a1 * 6), .ref 2, .ref 70, .int ((a1 * 24) + a2), .ref 71], (zS I J tg))) (Runs.ild rfl (show (3 : Nat) < 114 by decide) rfl c7) ?_
    refine Runs.sN 4 (c' := (51, [.ref 70, .int a1, .int a2, .int ((a1 * 24) + a2)], [.int a1, .ref 4, .int (I 3 ((a1).toNatClampNeg)), .int (a1 * 6), .ref 2, .ref 70, .int ((a1 * 24) + a2), .ref 71], (zS I J tg))) rfl ?_
    obtain ⟨c8, h⟩ := h
    refine Runs.to (c' := (52, [.ref 70, .int a1, .int a2, .int ((a1 * 24) + a2)], [.int (I 4 ((a1).toNatClampNeg)), .int (I 3 ((a1).toNatClampNeg)), .int (a1 * 6), .ref 2, .ref 70, .int ((a1 * 24) + a2), .ref 71], (zS I J tg))) (Runs.ild rfl (show (4 : Nat) < 114 by decide) rfl c8) ?_
    refine Runs.sN 1 (c' := (53, [.ref 70, .int a1, .int a2, .int ((a1 * 24) + a2)], [.int a2, .int (I 4 ((a1).toNatClampNeg)), .int (I 3 ((a1).toNatClampNeg)), .int (a1 * 6), .ref 2, .ref 70, .int ((a1 * 24) + a2), .ref 71], (zS I J tg))) rfl ?_
    obtain ⟨v3, I4, c9, h⟩ := h
    refine Runs.cl (cm := 63) (as := [.ref 70, .ref 2, .int (a1 * 6), .int (I 3 ((a1).toNatClampNeg)), .int (I 4 ((a1).toNatClampNeg)), .int a2]) (rest := [.int ((a1 * 24) + a2), .ref 71]) (r1 := ((some (.int v3)), (zS I4 J tg))) rfl (Nat.le_of_ble_eq_true rfl) c9 ?_
    refine Runs.as (c' := (56, [.ref 70, .int a1, .int a2, .int ((a1 * 24) + a2)], [.int v3, .int ((a1 * 24) + a2), .ref 71], (zS I4 J tg))) rfl ?_
    obtain ⟨c10, h⟩ := h
    refine Runs.to (c' := (57, [.ref 70, .int a1, .int a2, .int ((a1 * 24) + a2)], [], (zS (up2 I4 71 (((a1 * 24) + a2).toNatClampNeg) v3) J tg))) (Runs.ist rfl (show (71 : Nat) < 114 by decide) rfl c10) ?_
    refine Runs.sN 10 (c' := (72, [.ref 70, .int a1, .int a2, .int ((a1 * 24) + a2)], [.int ((a1 * 24) + a2), .ref 71, .int ((a2 * 24) + a1), .ref 71], (zS (up2 I4 71 (((a1 * 24) + a2).toNatClampNeg) v3) J tg))) rfl ?_
    obtain ⟨c11, h⟩ := h
    refine Runs.to (c' := (73, [.ref 70, .int a1, .int a2, .int ((a1 * 24) + a2)], [.int ((up2 I4 71 (((a1 * 24) + a2).toNatClampNeg) v3) 71 (((a1 * 24) + a2).toNatClampNeg)), .int ((a2 * 24) + a1), .ref 71], (zS (up2 I4 71 (((a1 * 24) + a2).toNatClampNeg) v3) J tg))) (Runs.ild rfl (show (71 : Nat) < 114 by decide) rfl c11) ?_
    obtain ⟨c12, h⟩ := h
    refine Runs.to (c' := (74, [.ref 70, .int a1, .int a2, .int ((a1 * 24) + a2)], [], (zS (up2 (up2 I4 71 (((a1 * 24) + a2).toNatClampNeg) v3) 71 (((a2 * 24) + a1).toNatClampNeg) ((up2 I4 71 (((a1 * 24) + a2).toNatClampNeg) v3) 71 (((a1 * 24) + a2).toNatClampNeg))) J tg))) (Runs.ist rfl (show (71 : Nat) < 114 by decide) rfl c12) ?_
    refine Runs.sN 3 (c' := (79, [.ref 70, .int a1, .int a2, .int ((a1 * 24) + a2)], [.int ((a1 * 24) + a2), .ref 71], (zS (up2 (up2 I4 71 (((a1 * 24) + a2).toNatClampNeg) v3) 71 (((a2 * 24) + a1).toNatClampNeg) ((up2 I4 71 (((a1 * 24) + a2).toNatClampNeg) v3) 71 (((a1 * 24) + a2).toNatClampNeg))) J tg))) rfl ?_
    obtain ⟨c13, h⟩ := h
    refine Runs.to (c' := (80, [.ref 70, .int a1, .int a2, .int ((a1 * 24) + a2)], [.int ((up2 (up2 I4 71 (((a1 * 24) + a2).toNatClampNeg) v3) 71 (((a2 * 24) + a1).toNatClampNeg) ((up2 I4 71 (((a1 * 24) + a2).toNatClampNeg) v3) 71 (((a1 * 24) + a2).toNatClampNeg))) 71 (((a1 * 24) + a2).toNatClampNeg))], (zS (up2 (up2 I4 71 (((a1 * 24) + a2).toNatClampNeg) v3) 71 (((a2 * 24) + a1).toNatClampNeg) ((up2 I4 71 (((a1 * 24) + a2).toNatClampNeg) v3) 71 (((a1 * 24) + a2).toNatClampNeg))) J tg))) (Runs.ild rfl (show (71 : Nat) < 114 by decide) rfl c13) ?_
    subst h
    exact Runs.rt rfl
  · rw [if_neg c6] at h
    refine Runs.brF (P := (I 71 (((a1 * 24) + a2).toNatClampNeg)) = (-1)) (a := 17) (b := 74) (L := [.ref 70, .int a1, .int a2, .int ((a1 * 24) + a2)]) (S := []) (z := (zS I J tg)) rfl c6 ?_
    refine Runs.sN 3 (c' := (79, [.ref 70, .int a1, .int a2, .int ((a1 * 24) + a2)], [.int ((a1 * 24) + a2), .ref 71], (zS I J tg))) rfl ?_
    obtain ⟨c14, h⟩ := h
    refine Runs.to (c' := (80, [.ref 70, .int a1, .int a2, .int ((a1 * 24) + a2)], [.int (I 71 (((a1 * 24) + a2).toNatClampNeg))], (zS I J tg))) (Runs.ild rfl (show (71 : Nat) < 114 by decide) rfl c14) ?_
    subst h
    exact Runs.rt rfl
-- X7_measure c2
theorem sg_63c2 {L d : Nat} {xs : Nat → Int32} (I : Nat → Nat → Int32) (J : Nat → Nat → Int64) (tg : Option Nat) (a1 : Int32) (a2 : Int32) (a3 : Int32) (a4 : Int32) {r : Option Value × SS} (h : (∃ (I8 : Nat → Nat → Int32), Runs (GW L xs) d 301 (0, [.ref 72, .int 0, vU, vU], [], (zS I J tg)) (none, (zS I8 J tg)) ∧ Runs (GW L xs) (d + 1) 63 (11, [.ref 70, .ref 2, .int a1, .int a2, .int a3, .int a4, .int 0], [], (zS I8 J tg)) r)) : Runs (GW L xs) (d + 1) 63 (0, [.ref 70, .ref 2, .int a1, .int a2, .int a3, .int a4, vU], [], (zS I J tg)) r := by
  refine Runs.sN 3 (c' := (5, [.ref 70, .ref 2, .int a1, .int a2, .int a3, .int a4, vU], [.int 0, .ref 72], (zS I J tg))) rfl ?_
  obtain ⟨I8, c9, h⟩ := h
  refine Runs.cl (cm := 301) (as := [.ref 72, .int 0]) (rest := []) (r1 := (none, (zS I8 J tg))) rfl (Nat.le_of_ble_eq_true rfl) c9 ?_
  refine Runs.as (c' := (8, [.ref 70, .ref 2, .int a1, .int a2, .int a3, .int a4, vU], [], (zS I8 J tg))) rfl ?_
  refine Runs.sN 2 (c' := (11, [.ref 70, .ref 2, .int a1, .int a2, .int a3, .int a4, .int 0], [], (zS I8 J tg))) rfl ?_
  exact h
theorem sg_63c2_11 {L d : Nat} {xs : Nat → Int32} (I : Nat → Nat → Int32) (J : Nat → Nat → Int64) (tg : Option Nat) (x2 : Int32) (x3 : Int32) (x4 : Int32) (x5 : Int32) (x6 : Int32) {r : Option Value × SS} (h : ((if x3 ≤ x6 then (∃ (v1 : Int32) (I2 : Nat → Nat → Int32), Runs (GW L xs) d 65 (0, [.ref 70, .int x5], [], (zS I J tg)) ((some (.int v1)), (zS I2 J tg)) ∧ ¬ (v1 < 0 ∨ 64 ≤ (v1).toNatClampNeg) ∧ ∃ (v3 : Int32) (I4 : Nat → Nat → Int32), Runs (GW L xs) d 64 (0, [.ref 70, .int x3, .int x4, .int x5, .int (I2 72 ((v1).toNatClampNeg)), vU], [], (zS I2 J tg)) ((some (.int v3)), (zS I4 J tg)) ∧ r = (some (.int v3), (zS I4 J tg))) else (¬ ((x2 + x6) < 0 ∨ 144 ≤ (x2 + x6).toNatClampNeg) ∧ ∃ (I5 : Nat → Nat → Int32), Runs (GW L xs) d 66 (0, [.ref 70, .int (I 2 ((x2 + x6).toNatClampNeg)), .int x5, .ref 72, .int 0, .int 0, vU, vU, vU, vU], [], (zS I J tg)) (none, (zS I5 J tg)) ∧ Runs (GW L xs) (d + 1) 63 (11, [.ref 70, .ref 2, .int x2, .int x3, .int x4, .int x5, .int (x6 + 1)], [], (zS I5 J tg)) r)))) : Runs (GW L xs) (d + 1) 63 (11, [.ref 70, .ref 2, .int x2, .int x3, .int x4, .int x5, .int x6], [], (zS I J tg)) r := by
  refine Runs.sN 2 (c' := (14, [.ref 70, .ref 2, .int x2, .int x3, .int x4, .int x5, .int x6], [.int x3, .int x6], (zS I J tg))) rfl ?_
  by_cases c6 : x3 ≤ x6
  · rw [if_pos c6] at h
    refine Runs.brT (P := x3 ≤ x6) (a := 41) (b := 17) (L := [.ref 70, .ref 2, .int x2, .int x3, .int x4, .int x5, .int x6]) (S := []) (z := (zS I J tg)) rfl c6 ?_
    refine Runs.sN 8 (c' := (54, [.ref 70, .ref 2, .int x2, .int x3, .int x4, .int x5, .int x6], [.int x5, .ref 70, .ref 72, .int x5, .int x4, .int x3, .ref 70], (zS I J tg))) rfl ?_
    obtain ⟨v1, I2, c7, h⟩ := h
    refine Runs.cl (cm := 65) (as := [.ref 70, .int x5]) (rest := [.ref 72, .int x5, .int x4, .int x3, .ref 70]) (r1 := ((some (.int v1)), (zS I2 J tg))) rfl (Nat.le_of_ble_eq_true rfl) c7 ?_
    refine Runs.as (c' := (57, [.ref 70, .ref 2, .int x2, .int x3, .int x4, .int x5, .int x6], [.int v1, .ref 72, .int x5, .int x4, .int x3, .ref 70], (zS I2 J tg))) rfl ?_
    obtain ⟨c8, h⟩ := h
    refine Runs.to (c' := (58, [.ref 70, .ref 2, .int x2, .int x3, .int x4, .int x5, .int x6], [.int (I2 72 ((v1).toNatClampNeg)), .int x5, .int x4, .int x3, .ref 70], (zS I2 J tg))) (Runs.ild rfl (show (72 : Nat) < 114 by decide) rfl c8) ?_
    obtain ⟨v3, I4, c9, h⟩ := h
    refine Runs.cl (cm := 64) (as := [.ref 70, .int x3, .int x4, .int x5, .int (I2 72 ((v1).toNatClampNeg))]) (rest := []) (r1 := ((some (.int v3)), (zS I4 J tg))) rfl (Nat.le_of_ble_eq_true rfl) c9 ?_
    refine Runs.as (c' := (61, [.ref 70, .ref 2, .int x2, .int x3, .int x4, .int x5, .int x6], [.int v3], (zS I4 J tg))) rfl ?_
    subst h
    exact Runs.rt rfl
  · rw [if_neg c6] at h
    refine Runs.brF (P := x3 ≤ x6) (a := 41) (b := 17) (L := [.ref 70, .ref 2, .int x2, .int x3, .int x4, .int x5, .int x6]) (S := []) (z := (zS I J tg)) rfl c6 ?_
    refine Runs.sN 5 (c' := (23, [.ref 70, .ref 2, .int x2, .int x3, .int x4, .int x5, .int x6], [.int (x2 + x6), .ref 2, .ref 70], (zS I J tg))) rfl ?_
    obtain ⟨c10, h⟩ := h
    refine Runs.to (c' := (24, [.ref 70, .ref 2, .int x2, .int x3, .int x4, .int x5, .int x6], [.int (I 2 ((x2 + x6).toNatClampNeg)), .ref 70], (zS I J tg))) (Runs.ild rfl (show (2 : Nat) < 114 by decide) rfl c10) ?_
    refine Runs.sN 5 (c' := (32, [.ref 70, .ref 2, .int x2, .int x3, .int x4, .int x5, .int x6], [.int 0, .int 0, .ref 72, .int x5, .int (I 2 ((x2 + x6).toNatClampNeg)), .ref 70], (zS I J tg))) rfl ?_
    obtain ⟨I5, c11, h⟩ := h
    refine Runs.cl (cm := 66) (as := [.ref 70, .int (I 2 ((x2 + x6).toNatClampNeg)), .int x5, .ref 72, .int 0, .int 0]) (rest := []) (r1 := (none, (zS I5 J tg))) rfl (Nat.le_of_ble_eq_true rfl) c11 ?_
    refine Runs.as (c' := (35, [.ref 70, .ref 2, .int x2, .int x3, .int x4, .int x5, .int x6], [], (zS I5 J tg))) rfl ?_
    refine Runs.sN 2 (c' := (11, [.ref 70, .ref 2, .int x2, .int x3, .int x4, .int x5, .int (x6 + 1)], [], (zS I5 J tg))) rfl ?_
    exact h
-- X7_measure c80
theorem sg_63c80 {L d : Nat} {xs : Nat → Int32} (I : Nat → Nat → Int32) (J : Nat → Nat → Int64) (tg : Option Nat) (a1 : Int32) (a2 : Int32) (a3 : Int32) (a4 : Int32) {r : Option Value × SS} (h : (∃ (I8 : Nat → Nat → Int32), Runs (GW L xs) d 301 (0, [.ref 72, .int 0, vU, vU], [], (zS I J tg)) (none, (zS I8 J tg)) ∧ Runs (GW L xs) (d + 1) 63 (11, [.ref 70, .ref 80, .int a1, .int a2, .int a3, .int a4, .int 0], [], (zS I8 J tg)) r)) : Runs (GW L xs) (d + 1) 63 (0, [.ref 70, .ref 80, .int a1, .int a2, .int a3, .int a4, vU], [], (zS I J tg)) r := by
  refine Runs.sN 3 (c' := (5, [.ref 70, .ref 80, .int a1, .int a2, .int a3, .int a4, vU], [.int 0, .ref 72], (zS I J tg))) rfl ?_
  obtain ⟨I8, c9, h⟩ := h
  refine Runs.cl (cm := 301) (as := [.ref 72, .int 0]) (rest := []) (r1 := (none, (zS I8 J tg))) rfl (Nat.le_of_ble_eq_true rfl) c9 ?_
  refine Runs.as (c' := (8, [.ref 70, .ref 80, .int a1, .int a2, .int a3, .int a4, vU], [], (zS I8 J tg))) rfl ?_
  refine Runs.sN 2 (c' := (11, [.ref 70, .ref 80, .int a1, .int a2, .int a3, .int a4, .int 0], [], (zS I8 J tg))) rfl ?_
  exact h
theorem sg_63c80_11 {L d : Nat} {xs : Nat → Int32} (I : Nat → Nat → Int32) (J : Nat → Nat → Int64) (tg : Option Nat) (x2 : Int32) (x3 : Int32) (x4 : Int32) (x5 : Int32) (x6 : Int32) {r : Option Value × SS} (h : ((if x3 ≤ x6 then (∃ (v1 : Int32) (I2 : Nat → Nat → Int32), Runs (GW L xs) d 65 (0, [.ref 70, .int x5], [], (zS I J tg)) ((some (.int v1)), (zS I2 J tg)) ∧ ¬ (v1 < 0 ∨ 64 ≤ (v1).toNatClampNeg) ∧ ∃ (v3 : Int32) (I4 : Nat → Nat → Int32), Runs (GW L xs) d 64 (0, [.ref 70, .int x3, .int x4, .int x5, .int (I2 72 ((v1).toNatClampNeg)), vU], [], (zS I2 J tg)) ((some (.int v3)), (zS I4 J tg)) ∧ r = (some (.int v3), (zS I4 J tg))) else (¬ ((x2 + x6) < 0 ∨ 6 ≤ (x2 + x6).toNatClampNeg) ∧ ∃ (I5 : Nat → Nat → Int32), Runs (GW L xs) d 66 (0, [.ref 70, .int (I 80 ((x2 + x6).toNatClampNeg)), .int x5, .ref 72, .int 0, .int 0, vU, vU, vU, vU], [], (zS I J tg)) (none, (zS I5 J tg)) ∧ Runs (GW L xs) (d + 1) 63 (11, [.ref 70, .ref 80, .int x2, .int x3, .int x4, .int x5, .int (x6 + 1)], [], (zS I5 J tg)) r)))) : Runs (GW L xs) (d + 1) 63 (11, [.ref 70, .ref 80, .int x2, .int x3, .int x4, .int x5, .int x6], [], (zS I J tg)) r := by
  refine Runs.sN 2 (c' := (14, [.ref 70, .ref 80, .int x2, .int x3, .int x4, .int x5, .int x6], [.int x3, .int x6], (zS I J tg))) rfl ?_
  by_cases c6 : x3 ≤ x6
  · rw [if_pos c6] at h
    refine Runs.brT (P := x3 ≤ x6) (a := 41) (b := 17) (L := [.ref 70, .ref 80, .int x2, .int x3, .int x4, .int x5, .int x6]) (S := []) (z := (zS I J tg)) rfl c6 ?_
    refine Runs.sN 8 (c' := (54, [.ref 70, .ref 80, .int x2, .int x3, .int x4, .int x5, .int x6], [.int x5, .ref 70, .ref 72, .int x5, .int x4, .int x3, .ref 70], (zS I J tg))) rfl ?_
    obtain ⟨v1, I2, c7, h⟩ := h
    refine Runs.cl (cm := 65) (as := [.ref 70, .int x5]) (rest := [.ref 72, .int x5, .int x4, .int x3, .ref 70]) (r1 := ((some (.int v1)), (zS I2 J tg))) rfl (Nat.le_of_ble_eq_true rfl) c7 ?_
    refine Runs.as (c' := (57, [.ref 70, .ref 80, .int x2, .int x3, .int x4, .int x5, .int x6], [.int v1, .ref 72, .int x5, .int x4, .int x3, .ref 70], (zS I2 J tg))) rfl ?_
    obtain ⟨c8, h⟩ := h
    refine Runs.to (c' := (58, [.ref 70, .ref 80, .int x2, .int x3, .int x4, .int x5, .int x6], [.int (I2 72 ((v1).toNatClampNeg)), .int x5, .int x4, .int x3, .ref 70], (zS I2 J tg))) (Runs.ild rfl (show (72 : Nat) < 114 by decide) rfl c8) ?_
    obtain ⟨v3, I4, c9, h⟩ := h
    refine Runs.cl (cm := 64) (as := [.ref 70, .int x3, .int x4, .int x5, .int (I2 72 ((v1).toNatClampNeg))]) (rest := []) (r1 := ((some (.int v3)), (zS I4 J tg))) rfl (Nat.le_of_ble_eq_true rfl) c9 ?_
    refine Runs.as (c' := (61, [.ref 70, .ref 80, .int x2, .int x3, .int x4, .int x5, .int x6], [.int v3], (zS I4 J tg))) rfl ?_
    subst h
    exact Runs.rt rfl
  · rw [if_neg c6] at h
    refine Runs.brF (P := x3 ≤ x6) (a := 41) (b := 17) (L := [.ref 70, .ref 80, .int x2, .int x3, .int x4, .int x5, .int x6]) (S := []) (z := (zS I J tg)) rfl c6 ?_
    refine Runs.sN 5 (c' := (23, [.ref 70, .ref 80, .int x2, .int x3, .int x4, .int x5, .int x6], [.int (x2 + x6), .ref 80, .ref 70], (zS I J tg))) rfl ?_
    obtain ⟨c10, h⟩ := h
    refine Runs.to (c' := (24, [.ref 70, .ref 80, .int x2, .int x3, .int x4, .int x5, .int x6], [.int (I 80 ((x2 + x6).toNatClampNeg)), .ref 70], (zS I J tg))) (Runs.ild rfl (show (80 : Nat) < 114 by decide) rfl c10) ?_
    refine Runs.sN 5 (c' := (32, [.ref 70, .ref 80, .int x2, .int x3, .int x4, .int x5, .int x6], [.int 0, .int 0, .ref 72, .int x5, .int (I 80 ((x2 + x6).toNatClampNeg)), .ref 70], (zS I J tg))) rfl ?_
    obtain ⟨I5, c11, h⟩ := h
    refine Runs.cl (cm := 66) (as := [.ref 70, .int (I 80 ((x2 + x6).toNatClampNeg)), .int x5, .ref 72, .int 0, .int 0]) (rest := []) (r1 := (none, (zS I5 J tg))) rfl (Nat.le_of_ble_eq_true rfl) c11 ?_
    refine Runs.as (c' := (35, [.ref 70, .ref 80, .int x2, .int x3, .int x4, .int x5, .int x6], [], (zS I5 J tg))) rfl ?_
    refine Runs.sN 2 (c' := (11, [.ref 70, .ref 80, .int x2, .int x3, .int x4, .int x5, .int (x6 + 1)], [], (zS I5 J tg))) rfl ?_
    exact h
-- X7_total 
theorem sg_64 {L d : Nat} {xs : Nat → Int32} (I : Nat → Nat → Int32) (J : Nat → Nat → Int64) (tg : Option Nat) (a1 : Int32) (a2 : Int32) (a3 : Int32) (a4 : Int32) {r : Option Value × SS} (h : (¬ (a3 < 0 ∨ 24 ≤ (a3).toNatClampNeg) ∧ ¬ (a3 < 0 ∨ 24 ≤ (a3).toNatClampNeg) ∧ (if a2 = (I 4 ((a3).toNatClampNeg)) then (r = (some (.int ((((I 1 4) * (a1 + (I 3 ((a3).toNatClampNeg)))) - a4) + 0)), (zS I J tg))) else (r = (some (.int ((((I 1 4) * (a1 + (I 3 ((a3).toNatClampNeg)))) - a4) + (I 1 5))), (zS I J tg)))))) : Runs (GW L xs) d 64 (0, [.ref 70, .int a1, .int a2, .int a3, .int a4, vU], [], (zS I J tg)) r := by
  refine Runs.sN 8 (c' := (16, [.ref 70, .int a1, .int a2, .int a3, .int a4, vU], [.int a3, .ref 3, .int a1, .int (I 1 4)], (zS I J tg))) rfl ?_
  obtain ⟨c1, h⟩ := h
  refine Runs.to (c' := (17, [.ref 70, .int a1, .int a2, .int a3, .int a4, vU], [.int (I 3 ((a3).toNatClampNeg)), .int a1, .int (I 1 4)], (zS I J tg))) (Runs.ild rfl (show (3 : Nat) < 114 by decide) rfl c1) ?_
  refine Runs.sN 11 (c' := (35, [.ref 70, .int a1, .int a2, .int a3, .int a4, .int ((I 1 4) * (a1 + (I 3 ((a3).toNatClampNeg))))], [.int a3, .ref 4, .int a2, .int (((I 1 4) * (a1 + (I 3 ((a3).toNatClampNeg)))) - a4)], (zS I J tg))) rfl ?_
  obtain ⟨c2, h⟩ := h
  refine Runs.to (c' := (36, [.ref 70, .int a1, .int a2, .int a3, .int a4, .int ((I 1 4) * (a1 + (I 3 ((a3).toNatClampNeg))))], [.int (I 4 ((a3).toNatClampNeg)), .int a2, .int (((I 1 4) * (a1 + (I 3 ((a3).toNatClampNeg)))) - a4)], (zS I J tg))) (Runs.ild rfl (show (4 : Nat) < 114 by decide) rfl c2) ?_
  by_cases c3 : a2 = (I 4 ((a3).toNatClampNeg))
  · rw [if_pos c3] at h
    refine Runs.brT (P := a2 = (I 4 ((a3).toNatClampNeg))) (a := 39) (b := 43) (L := [.ref 70, .int a1, .int a2, .int a3, .int a4, .int ((I 1 4) * (a1 + (I 3 ((a3).toNatClampNeg))))]) (S := [.int (((I 1 4) * (a1 + (I 3 ((a3).toNatClampNeg)))) - a4)]) (z := (zS I J tg)) rfl c3 ?_
    refine Runs.sN 3 (c' := (51, [.ref 70, .int a1, .int a2, .int a3, .int a4, .int ((I 1 4) * (a1 + (I 3 ((a3).toNatClampNeg))))], [.int ((((I 1 4) * (a1 + (I 3 ((a3).toNatClampNeg)))) - a4) + 0)], (zS I J tg))) rfl ?_
    subst h
    exact Runs.rt rfl
  · rw [if_neg c3] at h
    refine Runs.brF (P := a2 = (I 4 ((a3).toNatClampNeg))) (a := 39) (b := 43) (L := [.ref 70, .int a1, .int a2, .int a3, .int a4, .int ((I 1 4) * (a1 + (I 3 ((a3).toNatClampNeg))))]) (S := [.int (((I 1 4) * (a1 + (I 3 ((a3).toNatClampNeg)))) - a4)]) (z := (zS I J tg)) rfl c3 ?_
    refine Runs.sN 4 (c' := (51, [.ref 70, .int a1, .int a2, .int a3, .int a4, .int ((I 1 4) * (a1 + (I 3 ((a3).toNatClampNeg))))], [.int ((((I 1 4) * (a1 + (I 3 ((a3).toNatClampNeg)))) - a4) + (I 1 5))], (zS I J tg))) rfl ?_
    subst h
    exact Runs.rt rfl
-- X7_lastSubset 
theorem sg_65 {L d : Nat} {xs : Nat → Int32} (I : Nat → Nat → Int32) (J : Nat → Nat → Int64) (tg : Option Nat) (a1 : Int32) {r : Option Value × SS} (h : (¬ (a1 < 0 ∨ 24 ≤ (a1).toNatClampNeg) ∧ r = (some (.int ((1 <<< ((I 3 ((a1).toNatClampNeg)) &&& 31)) - 1)), (zS I J tg)))) : Runs (GW L xs) d 65 (0, [.ref 70, .int a1], [], (zS I J tg)) r := by
  refine Runs.sN 5 (c' := (9, [.ref 70, .int a1], [.int a1, .ref 3, .int 1], (zS I J tg))) rfl ?_
  obtain ⟨c1, h⟩ := h
  refine Runs.to (c' := (10, [.ref 70, .int a1], [.int (I 3 ((a1).toNatClampNeg)), .int 1], (zS I J tg))) (Runs.ild rfl (show (3 : Nat) < 114 by decide) rfl c1) ?_
  refine Runs.sN 3 (c' := (13, [.ref 70, .int a1], [.int ((1 <<< ((I 3 ((a1).toNatClampNeg)) &&& 31)) - 1)], (zS I J tg))) rfl ?_
  subst h
  exact Runs.rt rfl
-- X7_widen c72
theorem sg_66c72 {L d : Nat} {xs : Nat → Int32} (I : Nat → Nat → Int32) (J : Nat → Nat → Int64) (tg : Option Nat) (a1 : Int32) (a2 : Int32) (a3 : Int32) (a4 : Int32) {r : Option Value × SS} (h : (∃ (v13 : Int32) (I14 : Nat → Nat → Int32), Runs (GW L xs) d 67 (0, [.ref 70, .int a1, .int a2, vU, vU, vU, vU, vU], [], (zS I J tg)) ((some (.int v13)), (zS I14 J tg)) ∧ ∃ (v15 : Int32) (I16 : Nat → Nat → Int32), Runs (GW L xs) d 65 (0, [.ref 70, .int a2], [], (zS I14 J tg)) ((some (.int v15)), (zS I16 J tg)) ∧ Runs (GW L xs) (d + 1) 66 (15, [.ref 70, .int a1, .int a2, .ref 72, .int a3, .int a4, .int v13, .int v15, vU, vU], [], (zS I16 J tg)) r)) : Runs (GW L xs) (d + 1) 66 (0, [.ref 70, .int a1, .int a2, .ref 72, .int a3, .int a4, vU, vU, vU, vU], [], (zS I J tg)) r := by
  refine Runs.sN 3 (c' := (3, [.ref 70, .int a1, .int a2, .ref 72, .int a3, .int a4, vU, vU, vU, vU], [.int a2, .int a1, .ref 70], (zS I J tg))) rfl ?_
  obtain ⟨v13, I14, c17, h⟩ := h
  refine Runs.cl (cm := 67) (as := [.ref 70, .int a1, .int a2]) (rest := []) (r1 := ((some (.int v13)), (zS I14 J tg))) rfl (Nat.le_of_ble_eq_true rfl) c17 ?_
  refine Runs.as (c' := (6, [.ref 70, .int a1, .int a2, .ref 72, .int a3, .int a4, vU, vU, vU, vU], [.int v13], (zS I14 J tg))) rfl ?_
  refine Runs.sN 3 (c' := (10, [.ref 70, .int a1, .int a2, .ref 72, .int a3, .int a4, .int v13, vU, vU, vU], [.int a2, .ref 70], (zS I14 J tg))) rfl ?_
  obtain ⟨v15, I16, c18, h⟩ := h
  refine Runs.cl (cm := 65) (as := [.ref 70, .int a2]) (rest := []) (r1 := ((some (.int v15)), (zS I16 J tg))) rfl (Nat.le_of_ble_eq_true rfl) c18 ?_
  refine Runs.as (c' := (13, [.ref 70, .int a1, .int a2, .ref 72, .int a3, .int a4, .int v13, vU, vU, vU], [.int v15], (zS I16 J tg))) rfl ?_
  refine Runs.sN 1 (c' := (15, [.ref 70, .int a1, .int a2, .ref 72, .int a3, .int a4, .int v13, .int v15, vU, vU], [], (zS I16 J tg))) rfl ?_
  exact h
theorem sg_66c72_15 {L d : Nat} {xs : Nat → Int32} (I : Nat → Nat → Int32) (J : Nat → Nat → Int64) (tg : Option Nat) (x1 : Int32) (x2 : Int32) (x4 : Int32) (x5 : Int32) (x6 : Int32) (x7 : Int32) {r : Option Value × SS} (h : ((if x7 < 0 then (r = (none, (zS I J tg))) else (¬ ((x4 + x7) < 0 ∨ 64 ≤ (x4 + x7).toNatClampNeg) ∧ Runs (GW L xs) (d + 1) 66 (32, [.ref 70, .int x1, .int x2, .ref 72, .int x4, .int x5, .int x6, .int x7, .int (I 72 ((x4 + x7).toNatClampNeg)), .int 0], [], (zS I J tg)) r)))) : Runs (GW L xs) (d + 1) 66 (15, [.ref 70, .int x1, .int x2, .ref 72, .int x4, .int x5, .int x6, .int x7, vU, vU], [], (zS I J tg)) r := by
  refine Runs.sN 1 (c' := (17, [.ref 70, .int x1, .int x2, .ref 72, .int x4, .int x5, .int x6, .int x7, vU, vU], [.int x7], (zS I J tg))) rfl ?_
  by_cases c1 : x7 < 0
  · rw [if_pos c1] at h
    refine Runs.brT (P := x7 < 0) (a := 103) (b := 20) (L := [.ref 70, .int x1, .int x2, .ref 72, .int x4, .int x5, .int x6, .int x7, vU, vU]) (S := []) (z := (zS I J tg)) rfl c1 ?_
    subst h
    exact Runs.rt rfl
  · rw [if_neg c1] at h
    refine Runs.brF (P := x7 < 0) (a := 103) (b := 20) (L := [.ref 70, .int x1, .int x2, .ref 72, .int x4, .int x5, .int x6, .int x7, vU, vU]) (S := []) (z := (zS I J tg)) rfl c1 ?_
    refine Runs.sN 4 (c' := (26, [.ref 70, .int x1, .int x2, .ref 72, .int x4, .int x5, .int x6, .int x7, vU, vU], [.int (x4 + x7), .ref 72], (zS I J tg))) rfl ?_
    obtain ⟨c2, h⟩ := h
    refine Runs.to (c' := (27, [.ref 70, .int x1, .int x2, .ref 72, .int x4, .int x5, .int x6, .int x7, vU, vU], [.int (I 72 ((x4 + x7).toNatClampNeg))], (zS I J tg))) (Runs.ild rfl (show (72 : Nat) < 114 by decide) rfl c2) ?_
    refine Runs.sN 3 (c' := (32, [.ref 70, .int x1, .int x2, .ref 72, .int x4, .int x5, .int x6, .int x7, .int (I 72 ((x4 + x7).toNatClampNeg)), .int 0], [], (zS I J tg))) rfl ?_
    exact h
theorem sg_66c72_32 {L d : Nat} {xs : Nat → Int32} (I : Nat → Nat → Int32) (J : Nat → Nat → Int64) (tg : Option Nat) (x1 : Int32) (x2 : Int32) (x4 : Int32) (x5 : Int32) (x6 : Int32) (x7 : Int32) (x8 : Int32) (x9 : Int32) {r : Option Value × SS} (h : ((if x6 ≤ x9 then (¬ ((x5 + x7) < 0 ∨ 64 ≤ (x5 + x7).toNatClampNeg) ∧ Runs (GW L xs) (d + 1) 66 (15, [.ref 70, .int x1, .int x2, .ref 72, .int x4, .int x5, .int x6, .int (x7 + (-1)), vU, vU], [], (zS (up2 I 72 ((x5 + x7).toNatClampNeg) x8) J tg)) r) else (¬ (x9 < 0 ∨ 6 ≤ (x9).toNatClampNeg) ∧ (if (x7 &&& (I 73 ((x9).toNatClampNeg))) = 0 then (Runs (GW L xs) (d + 1) 66 (32, [.ref 70, .int x1, .int x2, .ref 72, .int x4, .int x5, .int x6, .int x7, .int x8, .int (x9 + 1)], [], (zS I J tg)) r) else (¬ (x9 < 0 ∨ 6 ≤ (x9).toNatClampNeg) ∧ ¬ ((x4 + (x7 ^^^ (I 73 ((x9).toNatClampNeg)))) < 0 ∨ 64 ≤ (x4 + (x7 ^^^ (I 73 ((x9).toNatClampNeg)))).toNatClampNeg) ∧ ¬ (x9 < 0 ∨ 6 ≤ (x9).toNatClampNeg) ∧ Runs (GW L xs) (d + 1) 66 (32, [.ref 70, .int x1, .int x2, .ref 72, .int x4, .int x5, .int x6, .int x7, .int (if x8 < ((I 72 ((x4 + (x7 ^^^ (I 73 ((x9).toNatClampNeg)))).toNatClampNeg)) + (I 74 ((x9).toNatClampNeg))) then ((I 72 ((x4 + (x7 ^^^ (I 73 ((x9).toNatClampNeg)))).toNatClampNeg)) + (I 74 ((x9).toNatClampNeg))) else x8), .int (x9 + 1)], [], (zS I J tg)) r)))))) : Runs (GW L xs) (d + 1) 66 (32, [.ref 70, .int x1, .int x2, .ref 72, .int x4, .int x5, .int x6, .int x7, .int x8, .int x9], [], (zS I J tg)) r := by
  refine Runs.sN 2 (c' := (36, [.ref 70, .int x1, .int x2, .ref 72, .int x4, .int x5, .int x6, .int x7, .int x8, .int x9], [.int x6, .int x9], (zS I J tg))) rfl ?_
  by_cases c1 : x6 ≤ x9
  · rw [if_pos c1] at h
    refine Runs.brT (P := x6 ≤ x9) (a := 88) (b := 39) (L := [.ref 70, .int x1, .int x2, .ref 72, .int x4, .int x5, .int x6, .int x7, .int x8, .int x9]) (S := []) (z := (zS I J tg)) rfl c1 ?_
    refine Runs.sN 5 (c' := (96, [.ref 70, .int x1, .int x2, .ref 72, .int x4, .int x5, .int x6, .int x7, .int x8, .int x9], [.int x8, .int (x5 + x7), .ref 72], (zS I J tg))) rfl ?_
    obtain ⟨c2, h⟩ := h
    refine Runs.to (c' := (97, [.ref 70, .int x1, .int x2, .ref 72, .int x4, .int x5, .int x6, .int x7, .int x8, .int x9], [], (zS (up2 I 72 ((x5 + x7).toNatClampNeg) x8) J tg))) (Runs.ist rfl (show (72 : Nat) < 114 by decide) rfl c2) ?_
    refine Runs.sN 2 (c' := (15, [.ref 70, .int x1, .int x2, .ref 72, .int x4, .int x5, .int x6, .int (x7 + (-1)), .int x8, .int x9], [], (zS (up2 I 72 ((x5 + x7).toNatClampNeg) x8) J tg))) rfl ?_
    exact Runs.weak (L := [.ref 70, .int x1, .int x2, .ref 72, .int x4, .int x5, .int x6, .int (x7 + (-1)), vU, vU]) (Lle.k (Lle.k (Lle.k (Lle.k (Lle.k (Lle.k (Lle.k (Lle.k (Lle.u (Lle.u Lle.n)))))))))) h
  · rw [if_neg c1] at h
    refine Runs.brF (P := x6 ≤ x9) (a := 88) (b := 39) (L := [.ref 70, .int x1, .int x2, .ref 72, .int x4, .int x5, .int x6, .int x7, .int x8, .int x9]) (S := []) (z := (zS I J tg)) rfl c1 ?_
    refine Runs.sN 4 (c' := (47, [.ref 70, .int x1, .int x2, .ref 72, .int x4, .int x5, .int x6, .int x7, .int x8, .int x9], [.int x9, .ref 73, .int x7], (zS I J tg))) rfl ?_
    obtain ⟨c3, h⟩ := h
    refine Runs.to (c' := (48, [.ref 70, .int x1, .int x2, .ref 72, .int x4, .int x5, .int x6, .int x7, .int x8, .int x9], [.int (I 73 ((x9).toNatClampNeg)), .int x7], (zS I J tg))) (Runs.ild rfl (show (73 : Nat) < 114 by decide) rfl c3) ?_
    refine Runs.sN 1 (c' := (49, [.ref 70, .int x1, .int x2, .ref 72, .int x4, .int x5, .int x6, .int x7, .int x8, .int x9], [.int (x7 &&& (I 73 ((x9).toNatClampNeg)))], (zS I J tg))) rfl ?_
    by_cases c4 : (x7 &&& (I 73 ((x9).toNatClampNeg))) = 0
    · rw [if_pos c4] at h
      refine Runs.brT (P := (x7 &&& (I 73 ((x9).toNatClampNeg))) = 0) (a := 82) (b := 52) (L := [.ref 70, .int x1, .int x2, .ref 72, .int x4, .int x5, .int x6, .int x7, .int x8, .int x9]) (S := []) (z := (zS I J tg)) rfl c4 ?_
      refine Runs.sN 2 (c' := (32, [.ref 70, .int x1, .int x2, .ref 72, .int x4, .int x5, .int x6, .int x7, .int x8, .int (x9 + 1)], [], (zS I J tg))) rfl ?_
      exact h
    · rw [if_neg c4] at h
      refine Runs.brF (P := (x7 &&& (I 73 ((x9).toNatClampNeg))) = 0) (a := 82) (b := 52) (L := [.ref 70, .int x1, .int x2, .ref 72, .int x4, .int x5, .int x6, .int x7, .int x8, .int x9]) (S := []) (z := (zS I J tg)) rfl c4 ?_
      refine Runs.sN 7 (c' := (65, [.ref 70, .int x1, .int x2, .ref 72, .int x4, .int x5, .int x6, .int x7, .int x8, .int x9], [.int x9, .ref 73, .int x7, .int x4, .ref 72, .int x8], (zS I J tg))) rfl ?_
      obtain ⟨c5, h⟩ := h
      refine Runs.to (c' := (66, [.ref 70, .int x1, .int x2, .ref 72, .int x4, .int x5, .int x6, .int x7, .int x8, .int x9], [.int (I 73 ((x9).toNatClampNeg)), .int x7, .int x4, .ref 72, .int x8], (zS I J tg))) (Runs.ild rfl (show (73 : Nat) < 114 by decide) rfl c5) ?_
      refine Runs.sN 2 (c' := (68, [.ref 70, .int x1, .int x2, .ref 72, .int x4, .int x5, .int x6, .int x7, .int x8, .int x9], [.int (x4 + (x7 ^^^ (I 73 ((x9).toNatClampNeg)))), .ref 72, .int x8], (zS I J tg))) rfl ?_
      obtain ⟨c6, h⟩ := h
      refine Runs.to (c' := (69, [.ref 70, .int x1, .int x2, .ref 72, .int x4, .int x5, .int x6, .int x7, .int x8, .int x9], [.int (I 72 ((x4 + (x7 ^^^ (I 73 ((x9).toNatClampNeg)))).toNatClampNeg)), .int x8], (zS I J tg))) (Runs.ild rfl (show (72 : Nat) < 114 by decide) rfl c6) ?_
      refine Runs.sN 3 (c' := (75, [.ref 70, .int x1, .int x2, .ref 72, .int x4, .int x5, .int x6, .int x7, .int x8, .int x9], [.int x9, .ref 74, .int (I 72 ((x4 + (x7 ^^^ (I 73 ((x9).toNatClampNeg)))).toNatClampNeg)), .int x8], (zS I J tg))) rfl ?_
      obtain ⟨c7, h⟩ := h
      refine Runs.to (c' := (76, [.ref 70, .int x1, .int x2, .ref 72, .int x4, .int x5, .int x6, .int x7, .int x8, .int x9], [.int (I 74 ((x9).toNatClampNeg)), .int (I 72 ((x4 + (x7 ^^^ (I 73 ((x9).toNatClampNeg)))).toNatClampNeg)), .int x8], (zS I J tg))) (Runs.ild rfl (show (74 : Nat) < 114 by decide) rfl c7) ?_
      refine Runs.sN 5 (c' := (32, [.ref 70, .int x1, .int x2, .ref 72, .int x4, .int x5, .int x6, .int x7, .int (if x8 < ((I 72 ((x4 + (x7 ^^^ (I 73 ((x9).toNatClampNeg)))).toNatClampNeg)) + (I 74 ((x9).toNatClampNeg))) then ((I 72 ((x4 + (x7 ^^^ (I 73 ((x9).toNatClampNeg)))).toNatClampNeg)) + (I 74 ((x9).toNatClampNeg))) else x8), .int (x9 + 1)], [], (zS I J tg))) rfl ?_
      exact h
-- X7_widen c81
theorem sg_66c81 {L d : Nat} {xs : Nat → Int32} (I : Nat → Nat → Int32) (J : Nat → Nat → Int64) (tg : Option Nat) (a1 : Int32) (a2 : Int32) (a3 : Int32) (a4 : Int32) {r : Option Value × SS} (h : (∃ (v13 : Int32) (I14 : Nat → Nat → Int32), Runs (GW L xs) d 67 (0, [.ref 70, .int a1, .int a2, vU, vU, vU, vU, vU], [], (zS I J tg)) ((some (.int v13)), (zS I14 J tg)) ∧ ∃ (v15 : Int32) (I16 : Nat → Nat → Int32), Runs (GW L xs) d 65 (0, [.ref 70, .int a2], [], (zS I14 J tg)) ((some (.int v15)), (zS I16 J tg)) ∧ Runs (GW L xs) (d + 1) 66 (15, [.ref 70, .int a1, .int a2, .ref 81, .int a3, .int a4, .int v13, .int v15, vU, vU], [], (zS I16 J tg)) r)) : Runs (GW L xs) (d + 1) 66 (0, [.ref 70, .int a1, .int a2, .ref 81, .int a3, .int a4, vU, vU, vU, vU], [], (zS I J tg)) r := by
  refine Runs.sN 3 (c' := (3, [.ref 70, .int a1, .int a2, .ref 81, .int a3, .int a4, vU, vU, vU, vU], [.int a2, .int a1, .ref 70], (zS I J tg))) rfl ?_
  obtain ⟨v13, I14, c17, h⟩ := h
  refine Runs.cl (cm := 67) (as := [.ref 70, .int a1, .int a2]) (rest := []) (r1 := ((some (.int v13)), (zS I14 J tg))) rfl (Nat.le_of_ble_eq_true rfl) c17 ?_
  refine Runs.as (c' := (6, [.ref 70, .int a1, .int a2, .ref 81, .int a3, .int a4, vU, vU, vU, vU], [.int v13], (zS I14 J tg))) rfl ?_
  refine Runs.sN 3 (c' := (10, [.ref 70, .int a1, .int a2, .ref 81, .int a3, .int a4, .int v13, vU, vU, vU], [.int a2, .ref 70], (zS I14 J tg))) rfl ?_
  obtain ⟨v15, I16, c18, h⟩ := h
  refine Runs.cl (cm := 65) (as := [.ref 70, .int a2]) (rest := []) (r1 := ((some (.int v15)), (zS I16 J tg))) rfl (Nat.le_of_ble_eq_true rfl) c18 ?_
  refine Runs.as (c' := (13, [.ref 70, .int a1, .int a2, .ref 81, .int a3, .int a4, .int v13, vU, vU, vU], [.int v15], (zS I16 J tg))) rfl ?_
  refine Runs.sN 1 (c' := (15, [.ref 70, .int a1, .int a2, .ref 81, .int a3, .int a4, .int v13, .int v15, vU, vU], [], (zS I16 J tg))) rfl ?_
  exact h
theorem sg_66c81_15 {L d : Nat} {xs : Nat → Int32} (I : Nat → Nat → Int32) (J : Nat → Nat → Int64) (tg : Option Nat) (x1 : Int32) (x2 : Int32) (x4 : Int32) (x5 : Int32) (x6 : Int32) (x7 : Int32) {r : Option Value × SS} (h : ((if x7 < 0 then (r = (none, (zS I J tg))) else (¬ ((x4 + x7) < 0 ∨ 5376 ≤ (x4 + x7).toNatClampNeg) ∧ Runs (GW L xs) (d + 1) 66 (32, [.ref 70, .int x1, .int x2, .ref 81, .int x4, .int x5, .int x6, .int x7, .int (I 81 ((x4 + x7).toNatClampNeg)), .int 0], [], (zS I J tg)) r)))) : Runs (GW L xs) (d + 1) 66 (15, [.ref 70, .int x1, .int x2, .ref 81, .int x4, .int x5, .int x6, .int x7, vU, vU], [], (zS I J tg)) r := by
  refine Runs.sN 1 (c' := (17, [.ref 70, .int x1, .int x2, .ref 81, .int x4, .int x5, .int x6, .int x7, vU, vU], [.int x7], (zS I J tg))) rfl ?_
  by_cases c1 : x7 < 0
  · rw [if_pos c1] at h
    refine Runs.brT (P := x7 < 0) (a := 103) (b := 20) (L := [.ref 70, .int x1, .int x2, .ref 81, .int x4, .int x5, .int x6, .int x7, vU, vU]) (S := []) (z := (zS I J tg)) rfl c1 ?_
    subst h
    exact Runs.rt rfl
  · rw [if_neg c1] at h
    refine Runs.brF (P := x7 < 0) (a := 103) (b := 20) (L := [.ref 70, .int x1, .int x2, .ref 81, .int x4, .int x5, .int x6, .int x7, vU, vU]) (S := []) (z := (zS I J tg)) rfl c1 ?_
    refine Runs.sN 4 (c' := (26, [.ref 70, .int x1, .int x2, .ref 81, .int x4, .int x5, .int x6, .int x7, vU, vU], [.int (x4 + x7), .ref 81], (zS I J tg))) rfl ?_
    obtain ⟨c2, h⟩ := h
    refine Runs.to (c' := (27, [.ref 70, .int x1, .int x2, .ref 81, .int x4, .int x5, .int x6, .int x7, vU, vU], [.int (I 81 ((x4 + x7).toNatClampNeg))], (zS I J tg))) (Runs.ild rfl (show (81 : Nat) < 114 by decide) rfl c2) ?_
    refine Runs.sN 3 (c' := (32, [.ref 70, .int x1, .int x2, .ref 81, .int x4, .int x5, .int x6, .int x7, .int (I 81 ((x4 + x7).toNatClampNeg)), .int 0], [], (zS I J tg))) rfl ?_
    exact h
theorem sg_66c81_32 {L d : Nat} {xs : Nat → Int32} (I : Nat → Nat → Int32) (J : Nat → Nat → Int64) (tg : Option Nat) (x1 : Int32) (x2 : Int32) (x4 : Int32) (x5 : Int32) (x6 : Int32) (x7 : Int32) (x8 : Int32) (x9 : Int32) {r : Option Value × SS} (h : ((if x6 ≤ x9 then (¬ ((x5 + x7) < 0 ∨ 5376 ≤ (x5 + x7).toNatClampNeg) ∧ Runs (GW L xs) (d + 1) 66 (15, [.ref 70, .int x1, .int x2, .ref 81, .int x4, .int x5, .int x6, .int (x7 + (-1)), vU, vU], [], (zS (up2 I 81 ((x5 + x7).toNatClampNeg) x8) J tg)) r) else (¬ (x9 < 0 ∨ 6 ≤ (x9).toNatClampNeg) ∧ (if (x7 &&& (I 73 ((x9).toNatClampNeg))) = 0 then (Runs (GW L xs) (d + 1) 66 (32, [.ref 70, .int x1, .int x2, .ref 81, .int x4, .int x5, .int x6, .int x7, .int x8, .int (x9 + 1)], [], (zS I J tg)) r) else (¬ (x9 < 0 ∨ 6 ≤ (x9).toNatClampNeg) ∧ ¬ ((x4 + (x7 ^^^ (I 73 ((x9).toNatClampNeg)))) < 0 ∨ 5376 ≤ (x4 + (x7 ^^^ (I 73 ((x9).toNatClampNeg)))).toNatClampNeg) ∧ ¬ (x9 < 0 ∨ 6 ≤ (x9).toNatClampNeg) ∧ Runs (GW L xs) (d + 1) 66 (32, [.ref 70, .int x1, .int x2, .ref 81, .int x4, .int x5, .int x6, .int x7, .int (if x8 < ((I 81 ((x4 + (x7 ^^^ (I 73 ((x9).toNatClampNeg)))).toNatClampNeg)) + (I 74 ((x9).toNatClampNeg))) then ((I 81 ((x4 + (x7 ^^^ (I 73 ((x9).toNatClampNeg)))).toNatClampNeg)) + (I 74 ((x9).toNatClampNeg))) else x8), .int (x9 + 1)], [], (zS I J tg)) r)))))) : Runs (GW L xs) (d + 1) 66 (32, [.ref 70, .int x1, .int x2, .ref 81, .int x4, .int x5, .int x6, .int x7, .int x8, .int x9], [], (zS I J tg)) r := by
  refine Runs.sN 2 (c' := (36, [.ref 70, .int x1, .int x2, .ref 81, .int x4, .int x5, .int x6, .int x7, .int x8, .int x9], [.int x6, .int x9], (zS I J tg))) rfl ?_
  by_cases c1 : x6 ≤ x9
  · rw [if_pos c1] at h
    refine Runs.brT (P := x6 ≤ x9) (a := 88) (b := 39) (L := [.ref 70, .int x1, .int x2, .ref 81, .int x4, .int x5, .int x6, .int x7, .int x8, .int x9]) (S := []) (z := (zS I J tg)) rfl c1 ?_
    refine Runs.sN 5 (c' := (96, [.ref 70, .int x1, .int x2, .ref 81, .int x4, .int x5, .int x6, .int x7, .int x8, .int x9], [.int x8, .int (x5 + x7), .ref 81], (zS I J tg))) rfl ?_
    obtain ⟨c2, h⟩ := h
    refine Runs.to (c' := (97, [.ref 70, .int x1, .int x2, .ref 81, .int x4, .int x5, .int x6, .int x7, .int x8, .int x9], [], (zS (up2 I 81 ((x5 + x7).toNatClampNeg) x8) J tg))) (Runs.ist rfl (show (81 : Nat) < 114 by decide) rfl c2) ?_
    refine Runs.sN 2 (c' := (15, [.ref 70, .int x1, .int x2, .ref 81, .int x4, .int x5, .int x6, .int (x7 + (-1)), .int x8, .int x9], [], (zS (up2 I 81 ((x5 + x7).toNatClampNeg) x8) J tg))) rfl ?_
    exact Runs.weak (L := [.ref 70, .int x1, .int x2, .ref 81, .int x4, .int x5, .int x6, .int (x7 + (-1)), vU, vU]) (Lle.k (Lle.k (Lle.k (Lle.k (Lle.k (Lle.k (Lle.k (Lle.k (Lle.u (Lle.u Lle.n)))))))))) h
  · rw [if_neg c1] at h
    refine Runs.brF (P := x6 ≤ x9) (a := 88) (b := 39) (L := [.ref 70, .int x1, .int x2, .ref 81, .int x4, .int x5, .int x6, .int x7, .int x8, .int x9]) (S := []) (z := (zS I J tg)) rfl c1 ?_
    refine Runs.sN 4 (c' := (47, [.ref 70, .int x1, .int x2, .ref 81, .int x4, .int x5, .int x6, .int x7, .int x8, .int x9], [.int x9, .ref 73, .int x7], (zS I J tg))) rfl ?_
    obtain ⟨c3, h⟩ := h
    refine Runs.to (c' := (48, [.ref 70, .int x1, .int x2, .ref 81, .int x4, .int x5, .int x6, .int x7, .int x8, .int x9], [.int (I 73 ((x9).toNatClampNeg)), .int x7], (zS I J tg))) (Runs.ild rfl (show (73 : Nat) < 114 by decide) rfl c3) ?_
    refine Runs.sN 1 (c' := (49, [.ref 70, .int x1, .int x2, .ref 81, .int x4, .int x5, .int x6, .int x7, .int x8, .int x9], [.int (x7 &&& (I 73 ((x9).toNatClampNeg)))], (zS I J tg))) rfl ?_
    by_cases c4 : (x7 &&& (I 73 ((x9).toNatClampNeg))) = 0
    · rw [if_pos c4] at h
      refine Runs.brT (P := (x7 &&& (I 73 ((x9).toNatClampNeg))) = 0) (a := 82) (b := 52) (L := [.ref 70, .int x1, .int x2, .ref 81, .int x4, .int x5, .int x6, .int x7, .int x8, .int x9]) (S := []) (z := (zS I J tg)) rfl c4 ?_
      refine Runs.sN 2 (c' := (32, [.ref 70, .int x1, .int x2, .ref 81, .int x4, .int x5, .int x6, .int x7, .int x8, .int (x9 + 1)], [], (zS I J tg))) rfl ?_
      exact h
    · rw [if_neg c4] at h
      refine Runs.brF (P := (x7 &&& (I 73 ((x9).toNatClampNeg))) = 0) (a := 82) (b := 52) (L := [.ref 70, .int x1, .int x2, .ref 81, .int x4, .int x5, .int x6, .int x7, .int x8, .int x9]) (S := []) (z := (zS I J tg)) rfl c4 ?_
      refine Runs.sN 7 (c' := (65, [.ref 70, .int x1, .int x2, .ref 81, .int x4, .int x5, .int x6, .int x7, .int x8, .int x9], [.int x9, .ref 73, .int x7, .int x4, .ref 81, .int x8], (zS I J tg))) rfl ?_
      obtain ⟨c5, h⟩ := h
      refine Runs.to (c' := (66, [.ref 70, .int x1, .int x2, .ref 81, .int x4, .int x5, .int x6, .int x7, .int x8, .int x9], [.int (I 73 ((x9).toNatClampNeg)), .int x7, .int x4, .ref 81, .int x8], (zS I J tg))) (Runs.ild rfl (show (73 : Nat) < 114 by decide) rfl c5) ?_
      refine Runs.sN 2 (c' := (68, [.ref 70, .int x1, .int x2, .ref 81, .int x4, .int x5, .int x6, .int x7, .int x8, .int x9], [.int (x4 + (x7 ^^^ (I 73 ((x9).toNatClampNeg)))), .ref 81, .int x8], (zS I J tg))) rfl ?_
      obtain ⟨c6, h⟩ := h
      refine Runs.to (c' := (69, [.ref 70, .int x1, .int x2, .ref 81, .int x4, .int x5, .int x6, .int x7, .int x8, .int x9], [.int (I 81 ((x4 + (x7 ^^^ (I 73 ((x9).toNatClampNeg)))).toNatClampNeg)), .int x8], (zS I J tg))) (Runs.ild rfl (show (81 : Nat) < 114 by decide) rfl c6) ?_
      refine Runs.sN 3 (c' := (75, [.ref 70, .int x1, .int x2, .ref 81, .int x4, .int x5, .int x6, .int x7, .int x8, .int x9], [.int x9, .ref 74, .int (I 81 ((x4 + (x7 ^^^ (I 73 ((x9).toNatClampNeg)))).toNatClampNeg)), .int x8], (zS I J tg))) rfl ?_
      obtain ⟨c7, h⟩ := h
      refine Runs.to (c' := (76, [.ref 70, .int x1, .int x2, .ref 81, .int x4, .int x5, .int x6, .int x7, .int x8, .int x9], [.int (I 74 ((x9).toNatClampNeg)), .int (I 81 ((x4 + (x7 ^^^ (I 73 ((x9).toNatClampNeg)))).toNatClampNeg)), .int x8], (zS I J tg))) (Runs.ild rfl (show (74 : Nat) < 114 by decide) rfl c7) ?_
      refine Runs.sN 5 (c' := (32, [.ref 70, .int x1, .int x2, .ref 81, .int x4, .int x5, .int x6, .int x7, .int (if x8 < ((I 81 ((x4 + (x7 ^^^ (I 73 ((x9).toNatClampNeg)))).toNatClampNeg)) + (I 74 ((x9).toNatClampNeg))) then ((I 81 ((x4 + (x7 ^^^ (I 73 ((x9).toNatClampNeg)))).toNatClampNeg)) + (I 74 ((x9).toNatClampNeg))) else x8), .int (x9 + 1)], [], (zS I J tg))) rfl ?_
      exact h
-- X7_findGains 
theorem sg_67 {L d : Nat} {xs : Nat → Int32} (I : Nat → Nat → Int32) (J : Nat → Nat → Int64) (tg : Option Nat) (a1 : Int32) (a2 : Int32) {r : Option Value × SS} (h : (Runs (GW L xs) d 67 (5, [.ref 70, .int a1, .int a2, .int 0, .int 0, vU, vU, vU], [], (zS I J tg)) r)) : Runs (GW L xs) d 67 (0, [.ref 70, .int a1, .int a2, vU, vU, vU, vU, vU], [], (zS I J tg)) r := by
  refine Runs.sN 4 (c' := (5, [.ref 70, .int a1, .int a2, .int 0, .int 0, vU, vU, vU], [], (zS I J tg))) rfl ?_
  exact h
theorem sg_67_5 {L d : Nat} {xs : Nat → Int32} (I : Nat → Nat → Int32) (J : Nat → Nat → Int64) (tg : Option Nat) (x1 : Int32) (x2 : Int32) (x3 : Int32) (x4 : Int32) {r : Option Value × SS} (h : (¬ (x2 < 0 ∨ 24 ≤ (x2).toNatClampNeg) ∧ (if (I 3 ((x2).toNatClampNeg)) ≤ x4 then (r = (some (.int x3), (zS I J tg))) else (¬ (((x2 * 6) + x4) < 0 ∨ 144 ≤ ((x2 * 6) + x4).toNatClampNeg) ∧ (if ((I 2 (((x2 * 6) + x4).toNatClampNeg)) / 36) = (x1 / 36) then (¬ (((((x1 / 4) - (x1 / 4) / 9 * 9) * 9) + (((I 2 (((x2 * 6) + x4).toNatClampNeg)) / 4) - ((I 2 (((x2 * 6) + x4).toNatClampNeg)) / 4) / 9 * 9)) < 0 ∨ 81 ≤ ((((x1 / 4) - (x1 / 4) / 9 * 9) * 9) + (((I 2 (((x2 * 6) + x4).toNatClampNeg)) / 4) - ((I 2 (((x2 * 6) + x4).toNatClampNeg)) / 4) / 9 * 9)).toNatClampNeg) ∧ (if (x1 - x1 / 4 * 4) = ((I 2 (((x2 * 6) + x4).toNatClampNeg)) - (I 2 (((x2 * 6) + x4).toNatClampNeg)) / 4 * 4) then ((if (2 * (I 1 4)) ≤ (((I 1 2) * (gaps.getD ((((x1 / 4) - (x1 / 4) / 9 * 9) * 9) + (((I 2 (((x2 * 6) + x4).toNatClampNeg)) / 4) - ((I 2 (((x2 * 6) + x4).toNatClampNeg)) / 4) / 9 * 9)).toNatClampNeg 0)) + 0) then (Runs (GW L xs) d 67 (5, [.ref 70, .int x1, .int x2, .int x3, .int (x4 + 1), vU, vU, vU], [], (zS I J tg)) r) else (¬ (x3 < 0 ∨ 6 ≤ (x3).toNatClampNeg) ∧ ¬ (x3 < 0 ∨ 6 ≤ (x3).toNatClampNeg) ∧ Runs (GW L xs) d 67 (5, [.ref 70, .int x1, .int x2, .int (x3 + 1), .int (x4 + 1), vU, vU, vU], [], (zS (up2 (up2 I 73 ((x3).toNatClampNeg) (1 <<< (x4 &&& 31))) 74 ((x3).toNatClampNeg) ((2 * (I 1 4)) - (((I 1 2) * (gaps.getD ((((x1 / 4) - (x1 / 4) / 9 * 9) * 9) + (((I 2 (((x2 * 6) + x4).toNatClampNeg)) / 4) - ((I 2 (((x2 * 6) + x4).toNatClampNeg)) / 4) / 9 * 9)).toNatClampNeg 0)) + 0))) J tg)) r))) else ((if (2 * (I 1 4)) ≤ (((I 1 2) * (gaps.getD ((((x1 / 4) - (x1 / 4) / 9 * 9) * 9) + (((I 2 (((x2 * 6) + x4).toNatClampNeg)) / 4) - ((I 2 (((x2 * 6) + x4).toNatClampNeg)) / 4) / 9 * 9)).toNatClampNeg 0)) + (I 1 3)) then (Runs (GW L xs) d 67 (5, [.ref 70, .int x1, .int x2, .int x3, .int (x4 + 1), vU, vU, vU], [], (zS I J tg)) r) else (¬ (x3 < 0 ∨ 6 ≤ (x3).toNatClampNeg) ∧ ¬ (x3 < 0 ∨ 6 ≤ (x3).toNatClampNeg) ∧ Runs (GW L xs) d 67 (5, [.ref 70, .int x1, .int x2, .int (x3 + 1), .int (x4 + 1), vU, vU, vU], [], (zS (up2 (up2 I 73 ((x3).toNatClampNeg) (1 <<< (x4 &&& 31))) 74 ((x3).toNatClampNeg) ((2 * (I 1 4)) - (((I 1 2) * (gaps.getD ((((x1 / 4) - (x1 / 4) / 9 * 9) * 9) + (((I 2 (((x2 * 6) + x4).toNatClampNeg)) / 4) - ((I 2 (((x2 * 6) + x4).toNatClampNeg)) / 4) / 9 * 9)).toNatClampNeg 0)) + (I 1 3)))) J tg)) r))))) else (Runs (GW L xs) d 67 (5, [.ref 70, .int x1, .int x2, .int x3, .int (x4 + 1), vU, vU, vU], [], (zS I J tg)) r)))))) : Runs (GW L xs) d 67 (5, [.ref 70, .int x1, .int x2, .int x3, .int x4, vU, vU, vU], [], (zS I J tg)) r := by
  refine Runs.sN 5 (c' := (15, [.ref 70, .int x1, .int x2, .int x3, .int x4, vU, vU, vU], [.int x2, .ref 3, .int x4], (zS I J tg))) rfl ?_
  obtain ⟨c1, h⟩ := h
  refine Runs.to (c' := (16, [.ref 70, .int x1, .int x2, .int x3, .int x4, vU, vU, vU], [.int (I 3 ((x2).toNatClampNeg)), .int x4], (zS I J tg))) (Runs.ild rfl (show (3 : Nat) < 114 by decide) rfl c1) ?_
  by_cases c2 : (I 3 ((x2).toNatClampNeg)) ≤ x4
  · rw [if_pos c2] at h
    refine Runs.brT (P := (I 3 ((x2).toNatClampNeg)) ≤ x4) (a := 159) (b := 19) (L := [.ref 70, .int x1, .int x2, .int x3, .int x4, vU, vU, vU]) (S := []) (z := (zS I J tg)) rfl c2 ?_
    refine Runs.sN 1 (c' := (160, [.ref 70, .int x1, .int x2, .int x3, .int x4, vU, vU, vU], [.int x3], (zS I J tg))) rfl ?_
    subst h
    exact Runs.rt rfl
  · rw [if_neg c2] at h
    refine Runs.brF (P := (I 3 ((x2).toNatClampNeg)) ≤ x4) (a := 159) (b := 19) (L := [.ref 70, .int x1, .int x2, .int x3, .int x4, vU, vU, vU]) (S := []) (z := (zS I J tg)) rfl c2 ?_
    refine Runs.sN 8 (c' := (33, [.ref 70, .int x1, .int x2, .int x3, .int x4, vU, vU, vU], [.int ((x2 * 6) + x4), .ref 2], (zS I J tg))) rfl ?_
    obtain ⟨c3, h⟩ := h
    refine Runs.to (c' := (34, [.ref 70, .int x1, .int x2, .int x3, .int x4, vU, vU, vU], [.int (I 2 (((x2 * 6) + x4).toNatClampNeg))], (zS I J tg))) (Runs.ild rfl (show (2 : Nat) < 114 by decide) rfl c3) ?_
    refine Runs.sN 7 (c' := (45, [.ref 70, .int x1, .int x2, .int x3, .int x4, .int (I 2 (((x2 * 6) + x4).toNatClampNeg)), vU, vU], [.int (x1 / 36), .int ((I 2 (((x2 * 6) + x4).toNatClampNeg)) / 36)], (zS I J tg))) rfl ?_
    by_cases c4 : ((I 2 (((x2 * 6) + x4).toNatClampNeg)) / 36) = (x1 / 36)
    · rw [if_pos c4] at h
      refine Runs.brT (P := ((I 2 (((x2 * 6) + x4).toNatClampNeg)) / 36) = (x1 / 36)) (a := 51) (b := 48) (L := [.ref 70, .int x1, .int x2, .int x3, .int x4, .int (I 2 (((x2 * 6) + x4).toNatClampNeg)), vU, vU]) (S := []) (z := (zS I J tg)) rfl c4 ?_
      refine Runs.sN 14 (c' := (71, [.ref 70, .int x1, .int x2, .int x3, .int x4, .int (I 2 (((x2 * 6) + x4).toNatClampNeg)), vU, vU], [.int ((((x1 / 4) - (x1 / 4) / 9 * 9) * 9) + (((I 2 (((x2 * 6) + x4).toNatClampNeg)) / 4) - ((I 2 (((x2 * 6) + x4).toNatClampNeg)) / 4) / 9 * 9)), .retAddr 1], (zS I J tg))) rfl ?_
      obtain ⟨c5, h⟩ := h
      refine Runs.to (c' := (72, [.ref 70, .int x1, .int x2, .int x3, .int x4, .int (I 2 (((x2 * 6) + x4).toNatClampNeg)), vU, vU], [.int (gaps.getD ((((x1 / 4) - (x1 / 4) / 9 * 9) * 9) + (((I 2 (((x2 * 6) + x4).toNatClampNeg)) / 4) - ((I 2 (((x2 * 6) + x4).toNatClampNeg)) / 4) / 9 * 9)).toNatClampNeg 0)], (zS I J tg))) (Runs.sld rfl (show (1 : Nat) < 2 by decide) c5) ?_
      refine Runs.sN 12 (c' := (91, [.ref 70, .int x1, .int x2, .int x3, .int x4, .int (I 2 (((x2 * 6) + x4).toNatClampNeg)), .int (gaps.getD ((((x1 / 4) - (x1 / 4) / 9 * 9) * 9) + (((I 2 (((x2 * 6) + x4).toNatClampNeg)) / 4) - ((I 2 (((x2 * 6) + x4).toNatClampNeg)) / 4) / 9 * 9)).toNatClampNeg 0), vU], [.int ((I 2 (((x2 * 6) + x4).toNatClampNeg)) - (I 2 (((x2 * 6) + x4).toNatClampNeg)) / 4 * 4), .int (x1 - x1 / 4 * 4), .int ((I 1 2) * (gaps.getD ((((x1 / 4) - (x1 / 4) / 9 * 9) * 9) + (((I 2 (((x2 * 6) + x4).toNatClampNeg)) / 4) - ((I 2 (((x2 * 6) + x4).toNatClampNeg)) / 4) / 9 * 9)).toNatClampNeg 0))], (zS I J tg))) rfl ?_
      by_cases c6 : (x1 - x1 / 4 * 4) = ((I 2 (((x2 * 6) + x4).toNatClampNeg)) - (I 2 (((x2 * 6) + x4).toNatClampNeg)) / 4 * 4)
      · rw [if_pos c6] at h
        refine Runs.brT (P := (x1 - x1 / 4 * 4) = ((I 2 (((x2 * 6) + x4).toNatClampNeg)) - (I 2 (((x2 * 6) + x4).toNatClampNeg)) / 4 * 4)) (a := 94) (b := 98) (L := [.ref 70, .int x1, .int x2, .int x3, .int x4, .int (I 2 (((x2 * 6) + x4).toNatClampNeg)), .int (gaps.getD ((((x1 / 4) - (x1 / 4) / 9 * 9) * 9) + (((I 2 (((x2 * 6) + x4).toNatClampNeg)) / 4) - ((I 2 (((x2 * 6) + x4).toNatClampNeg)) / 4) / 9 * 9)).toNatClampNeg 0), vU]) (S := [.int ((I 1 2) * (gaps.getD ((((x1 / 4) - (x1 / 4) / 9 * 9) * 9) + (((I 2 (((x2 * 6) + x4).toNatClampNeg)) / 4) - ((I 2 (((x2 * 6) + x4).toNatClampNeg)) / 4) / 9 * 9)).toNatClampNeg 0))]) (z := (zS I J tg)) rfl c6 ?_
        refine Runs.sN 10 (c' := (119, [.ref 70, .int x1, .int x2, .int x3, .int x4, .int (I 2 (((x2 * 6) + x4).toNatClampNeg)), .int (gaps.getD ((((x1 / 4) - (x1 / 4) / 9 * 9) * 9) + (((I 2 (((x2 * 6) + x4).toNatClampNeg)) / 4) - ((I 2 (((x2 * 6) + x4).toNatClampNeg)) / 4) / 9 * 9)).toNatClampNeg 0), .int (((I 1 2) * (gaps.getD ((((x1 / 4) - (x1 / 4) / 9 * 9) * 9) + (((I 2 (((x2 * 6) + x4).toNatClampNeg)) / 4) - ((I 2 (((x2 * 6) + x4).toNatClampNeg)) / 4) / 9 * 9)).toNatClampNeg 0)) + 0)], [.int (2 * (I 1 4)), .int (((I 1 2) * (gaps.getD ((((x1 / 4) - (x1 / 4) / 9 * 9) * 9) + (((I 2 (((x2 * 6) + x4).toNatClampNeg)) / 4) - ((I 2 (((x2 * 6) + x4).toNatClampNeg)) / 4) / 9 * 9)).toNatClampNeg 0)) + 0)], (zS I J tg))) rfl ?_
        by_cases c7 : (2 * (I 1 4)) ≤ (((I 1 2) * (gaps.getD ((((x1 / 4) - (x1 / 4) / 9 * 9) * 9) + (((I 2 (((x2 * 6) + x4).toNatClampNeg)) / 4) - ((I 2 (((x2 * 6) + x4).toNatClampNeg)) / 4) / 9 * 9)).toNatClampNeg 0)) + 0)
        · rw [if_pos c7] at h
          refine Runs.brT (P := (2 * (I 1 4)) ≤ (((I 1 2) * (gaps.getD ((((x1 / 4) - (x1 / 4) / 9 * 9) * 9) + (((I 2 (((x2 * 6) + x4).toNatClampNeg)) / 4) - ((I 2 (((x2 * 6) + x4).toNatClampNeg)) / 4) / 9 * 9)).toNatClampNeg 0)) + 0)) (a := 153) (b := 122) (L := [.ref 70, .int x1, .int x2, .int x3, .int x4, .int (I 2 (((x2 * 6) + x4).toNatClampNeg)), .int (gaps.getD ((((x1 / 4) - (x1 / 4) / 9 * 9) * 9) + (((I 2 (((x2 * 6) + x4).toNatClampNeg)) / 4) - ((I 2 (((x2 * 6) + x4).toNatClampNeg)) / 4) / 9 * 9)).toNatClampNeg 0), .int (((I 1 2) * (gaps.getD ((((x1 / 4) - (x1 / 4) / 9 * 9) * 9) + (((I 2 (((x2 * 6) + x4).toNatClampNeg)) / 4) - ((I 2 (((x2 * 6) + x4).toNatClampNeg)) / 4) / 9 * 9)).toNatClampNeg 0)) + 0)]) (S := []) (z := (zS I J tg)) rfl c7 ?_
          refine Runs.sN 2 (c' := (5, [.ref 70, .int x1, .int x2, .int x3, .int (x4 + 1), .int (I 2 (((x2 * 6) + x4).toNatClampNeg)), .int (gaps.getD ((((x1 / 4) - (x1 / 4) / 9 * 9) * 9) + (((I 2 (((x2 * 6) + x4).toNatClampNeg)) / 4) - ((I 2 (((x2 * 6) + x4).toNatClampNeg)) / 4) / 9 * 9)).toNatClampNeg 0), .int (((I 1 2) * (gaps.getD ((((x1 / 4) - (x1 / 4) / 9 * 9) * 9) + (((I 2 (((x2 * 6) + x4).toNatClampNeg)) / 4) - ((I 2 (((x2 * 6) + x4).toNatClampNeg)) / 4) / 9 * 9)).toNatClampNeg 0)) + 0)], [], (zS I J tg))) rfl ?_
          exact Runs.weak (L := [.ref 70, .int x1, .int x2, .int x3, .int (x4 + 1), vU, vU, vU]) (Lle.k (Lle.k (Lle.k (Lle.k (Lle.k (Lle.u (Lle.u (Lle.u Lle.n)))))))) h
        · rw [if_neg c7] at h
          refine Runs.brF (P := (2 * (I 1 4)) ≤ (((I 1 2) * (gaps.getD ((((x1 / 4) - (x1 / 4) / 9 * 9) * 9) + (((I 2 (((x2 * 6) + x4).toNatClampNeg)) / 4) - ((I 2 (((x2 * 6) + x4).toNatClampNeg)) / 4) / 9 * 9)).toNatClampNeg 0)) + 0)) (a := 153) (b := 122) (L := [.ref 70, .int x1, .int x2, .int x3, .int x4, .int (I 2 (((x2 * 6) + x4).toNatClampNeg)), .int (gaps.getD ((((x1 / 4) - (x1 / 4) / 9 * 9) * 9) + (((I 2 (((x2 * 6) + x4).toNatClampNeg)) / 4) - ((I 2 (((x2 * 6) + x4).toNatClampNeg)) / 4) / 9 * 9)).toNatClampNeg 0), .int (((I 1 2) * (gaps.getD ((((x1 / 4) - (x1 / 4) / 9 * 9) * 9) + (((I 2 (((x2 * 6) + x4).toNatClampNeg)) / 4) - ((I 2 (((x2 * 6) + x4).toNatClampNeg)) / 4) / 9 * 9)).toNatClampNeg 0)) + 0)]) (S := []) (z := (zS I J tg)) rfl c7 ?_
          refine Runs.sN 6 (c' := (131, [.ref 70, .int x1, .int x2, .int x3, .int x4, .int (I 2 (((x2 * 6) + x4).toNatClampNeg)), .int (gaps.getD ((((x1 / 4) - (x1 / 4) / 9 * 9) * 9) + (((I 2 (((x2 * 6) + x4).toNatClampNeg)) / 4) - ((I 2 (((x2 * 6) + x4).toNatClampNeg)) / 4) / 9 * 9)).toNatClampNeg 0), .int (((I 1 2) * (gaps.getD ((((x1 / 4) - (x1 / 4) / 9 * 9) * 9) + (((I 2 (((x2 * 6) + x4).toNatClampNeg)) / 4) - ((I 2 (((x2 * 6) + x4).toNatClampNeg)) / 4) / 9 * 9)).toNatClampNeg 0)) + 0)], [.int (1 <<< (x4 &&& 31)), .int x3, .ref 73], (zS I J tg))) rfl ?_
          obtain ⟨c8, h⟩ := h
          refine Runs.to (c' := (132, [.ref 70, .int x1, .int x2, .int x3, .int x4, .int (I 2 (((x2 * 6) + x4).toNatClampNeg)), .int (gaps.getD ((((x1 / 4) - (x1 / 4) / 9 * 9) * 9) + (((I 2 (((x2 * 6) + x4).toNatClampNeg)) / 4) - ((I 2 (((x2 * 6) + x4).toNatClampNeg)) / 4) / 9 * 9)).toNatClampNeg 0), .int (((I 1 2) * (gaps.getD ((((x1 / 4) - (x1 / 4) / 9 * 9) * 9) + (((I 2 (((x2 * 6) + x4).toNatClampNeg)) / 4) - ((I 2 (((x2 * 6) + x4).toNatClampNeg)) / 4) / 9 * 9)).toNatClampNeg 0)) + 0)], [], (zS (up2 I 73 ((x3).toNatClampNeg) (1 <<< (x4 &&& 31))) J tg))) (Runs.ist rfl (show (73 : Nat) < 114 by decide) rfl c8) ?_
          refine Runs.sN 10 (c' := (149, [.ref 70, .int x1, .int x2, .int x3, .int x4, .int (I 2 (((x2 * 6) + x4).toNatClampNeg)), .int (gaps.getD ((((x1 / 4) - (x1 / 4) / 9 * 9) * 9) + (((I 2 (((x2 * 6) + x4).toNatClampNeg)) / 4) - ((I 2 (((x2 * 6) + x4).toNatClampNeg)) / 4) / 9 * 9)).toNatClampNeg 0), .int (((I 1 2) * (gaps.getD ((((x1 / 4) - (x1 / 4) / 9 * 9) * 9) + (((I 2 (((x2 * 6) + x4).toNatClampNeg)) / 4) - ((I 2 (((x2 * 6) + x4).toNatClampNeg)) / 4) / 9 * 9)).toNatClampNeg 0)) + 0)], [.int ((2 * (I 1 4)) - (((I 1 2) * (gaps.getD ((((x1 / 4) - (x1 / 4) / 9 * 9) * 9) + (((I 2 (((x2 * 6) + x4).toNatClampNeg)) / 4) - ((I 2 (((x2 * 6) + x4).toNatClampNeg)) / 4) / 9 * 9)).toNatClampNeg 0)) + 0)), .int x3, .ref 74], (zS (up2 I 73 ((x3).toNatClampNeg) (1 <<< (x4 &&& 31))) J tg))) rfl ?_
          obtain ⟨c9, h⟩ := h
          refine Runs.to (c' := (150, [.ref 70, .int x1, .int x2, .int x3, .int x4, .int (I 2 (((x2 * 6) + x4).toNatClampNeg)), .int (gaps.getD ((((x1 / 4) - (x1 / 4) / 9 * 9) * 9) + (((I 2 (((x2 * 6) + x4).toNatClampNeg)) / 4) - ((I 2 (((x2 * 6) + x4).toNatClampNeg)) / 4) / 9 * 9)).toNatClampNeg 0), .int (((I 1 2) * (gaps.getD ((((x1 / 4) - (x1 / 4) / 9 * 9) * 9) + (((I 2 (((x2 * 6) + x4).toNatClampNeg)) / 4) - ((I 2 (((x2 * 6) + x4).toNatClampNeg)) / 4) / 9 * 9)).toNatClampNeg 0)) + 0)], [], (zS (up2 (up2 I 73 ((x3).toNatClampNeg) (1 <<< (x4 &&& 31))) 74 ((x3).toNatClampNeg) ((2 * (I 1 4)) - (((I 1 2) * (gaps.getD ((((x1 / 4) - (x1 / 4) / 9 * 9) * 9) + (((I 2 (((x2 * 6) + x4).toNatClampNeg)) / 4) - ((I 2 (((x2 * 6) + x4).toNatClampNeg)) / 4) / 9 * 9)).toNatClampNeg 0)) + 0))) J tg))) (Runs.ist rfl (show (74 : Nat) < 114 by decide) rfl c9) ?_
          refine Runs.sN 3 (c' := (5, [.ref 70, .int x1, .int x2, .int (x3 + 1), .int (x4 + 1), .int (I 2 (((x2 * 6) + x4).toNatClampNeg)), .int (gaps.getD ((((x1 / 4) - (x1 / 4) / 9 * 9) * 9) + (((I 2 (((x2 * 6) + x4).toNatClampNeg)) / 4) - ((I 2 (((x2 * 6) + x4).toNatClampNeg)) / 4) / 9 * 9)).toNatClampNeg 0), .int (((I 1 2) * (gaps.getD ((((x1 / 4) - (x1 / 4) / 9 * 9) * 9) + (((I 2 (((x2 * 6) + x4).toNatClampNeg)) / 4) - ((I 2 (((x2 * 6) + x4).toNatClampNeg)) / 4) / 9 * 9)).toNatClampNeg 0)) + 0)], [], (zS (up2 (up2 I 73 ((x3).toNatClampNeg) (1 <<< (x4 &&& 31))) 74 ((x3).toNatClampNeg) ((2 * (I 1 4)) - (((I 1 2) * (gaps.getD ((((x1 / 4) - (x1 / 4) / 9 * 9) * 9) + (((I 2 (((x2 * 6) + x4).toNatClampNeg)) / 4) - ((I 2 (((x2 * 6) + x4).toNatClampNeg)) / 4) / 9 * 9)).toNatClampNeg 0)) + 0))) J tg))) rfl ?_
          exact Runs.weak (L := [.ref 70, .int x1, .int x2, .int (x3 + 1), .int (x4 + 1), vU, vU, vU]) (Lle.k (Lle.k (Lle.k (Lle.k (Lle.k (Lle.u (Lle.u (Lle.u Lle.n)))))))) h
      · rw [if_neg c6] at h
        refine Runs.brF (P := (x1 - x1 / 4 * 4) = ((I 2 (((x2 * 6) + x4).toNatClampNeg)) - (I 2 (((x2 * 6) + x4).toNatClampNeg)) / 4 * 4)) (a := 94) (b := 98) (L := [.ref 70, .int x1, .int x2, .int x3, .int x4, .int (I 2 (((x2 * 6) + x4).toNatClampNeg)), .int (gaps.getD ((((x1 / 4) - (x1 / 4) / 9 * 9) * 9) + (((I 2 (((x2 * 6) + x4).toNatClampNeg)) / 4) - ((I 2 (((x2 * 6) + x4).toNatClampNeg)) / 4) / 9 * 9)).toNatClampNeg 0), vU]) (S := [.int ((I 1 2) * (gaps.getD ((((x1 / 4) - (x1 / 4) / 9 * 9) * 9) + (((I 2 (((x2 * 6) + x4).toNatClampNeg)) / 4) - ((I 2 (((x2 * 6) + x4).toNatClampNeg)) / 4) / 9 * 9)).toNatClampNeg 0))]) (z := (zS I J tg)) rfl c6 ?_
        refine Runs.sN 11 (c' := (119, [.ref 70, .int x1, .int x2, .int x3, .int x4, .int (I 2 (((x2 * 6) + x4).toNatClampNeg)), .int (gaps.getD ((((x1 / 4) - (x1 / 4) / 9 * 9) * 9) + (((I 2 (((x2 * 6) + x4).toNatClampNeg)) / 4) - ((I 2 (((x2 * 6) + x4).toNatClampNeg)) / 4) / 9 * 9)).toNatClampNeg 0), .int (((I 1 2) * (gaps.getD ((((x1 / 4) - (x1 / 4) / 9 * 9) * 9) + (((I 2 (((x2 * 6) + x4).toNatClampNeg)) / 4) - ((I 2 (((x2 * 6) + x4).toNatClampNeg)) / 4) / 9 * 9)).toNatClampNeg 0)) + (I 1 3))], [.int (2 * (I 1 4)), .int (((I 1 2) * (gaps.getD ((((x1 / 4) - (x1 / 4) / 9 * 9) * 9) + (((I 2 (((x2 * 6) + x4).toNatClampNeg)) / 4) - ((I 2 (((x2 * 6) + x4).toNatClampNeg)) / 4) / 9 * 9)).toNatClampNeg 0)) + (I 1 3))], (zS I J tg))) rfl ?_
        by_cases c10 : (2 * (I 1 4)) ≤ (((I 1 2) * (gaps.getD ((((x1 / 4) - (x1 / 4) / 9 * 9) * 9) + (((I 2 (((x2 * 6) + x4).toNatClampNeg)) / 4) - ((I 2 (((x2 * 6) + x4).toNatClampNeg)) / 4) / 9 * 9)).toNatClampNeg 0)) + (I 1 3))
        · rw [if_pos c10] at h
          refine Runs.brT (P := (2 * (I 1 4)) ≤ (((I 1 2) * (gaps.getD ((((x1 / 4) - (x1 / 4) / 9 * 9) * 9) + (((I 2 (((x2 * 6) + x4).toNatClampNeg)) / 4) - ((I 2 (((x2 * 6) + x4).toNatClampNeg)) / 4) / 9 * 9)).toNatClampNeg 0)) + (I 1 3))) (a := 153) (b := 122) (L := [.ref 70, .int x1, .int x2, .int x3, .int x4, .int (I 2 (((x2 * 6) + x4).toNatClampNeg)), .int (gaps.getD ((((x1 / 4) - (x1 / 4) / 9 * 9) * 9) + (((I 2 (((x2 * 6) + x4).toNatClampNeg)) / 4) - ((I 2 (((x2 * 6) + x4).toNatClampNeg)) / 4) / 9 * 9)).toNatClampNeg 0), .int (((I 1 2) * (gaps.getD ((((x1 / 4) - (x1 / 4) / 9 * 9) * 9) + (((I 2 (((x2 * 6) + x4).toNatClampNeg)) / 4) - ((I 2 (((x2 * 6) + x4).toNatClampNeg)) / 4) / 9 * 9)).toNatClampNeg 0)) + (I 1 3))]) (S := []) (z := (zS I J tg)) rfl c10 ?_
          refine Runs.sN 2 (c' := (5, [.ref 70, .int x1, .int x2, .int x3, .int (x4 + 1), .int (I 2 (((x2 * 6) + x4).toNatClampNeg)), .int (gaps.getD ((((x1 / 4) - (x1 / 4) / 9 * 9) * 9) + (((I 2 (((x2 * 6) + x4).toNatClampNeg)) / 4) - ((I 2 (((x2 * 6) + x4).toNatClampNeg)) / 4) / 9 * 9)).toNatClampNeg 0), .int (((I 1 2) * (gaps.getD ((((x1 / 4) - (x1 / 4) / 9 * 9) * 9) + (((I 2 (((x2 * 6) + x4).toNatClampNeg)) / 4) - ((I 2 (((x2 * 6) + x4).toNatClampNeg)) / 4) / 9 * 9)).toNatClampNeg 0)) + (I 1 3))], [], (zS I J tg))) rfl ?_
          exact Runs.weak (L := [.ref 70, .int x1, .int x2, .int x3, .int (x4 + 1), vU, vU, vU]) (Lle.k (Lle.k (Lle.k (Lle.k (Lle.k (Lle.u (Lle.u (Lle.u Lle.n)))))))) h
        · rw [if_neg c10] at h
          refine Runs.brF (P := (2 * (I 1 4)) ≤ (((I 1 2) * (gaps.getD ((((x1 / 4) - (x1 / 4) / 9 * 9) * 9) + (((I 2 (((x2 * 6) + x4).toNatClampNeg)) / 4) - ((I 2 (((x2 * 6) + x4).toNatClampNeg)) / 4) / 9 * 9)).toNatClampNeg 0)) + (I 1 3))) (a := 153) (b := 122) (L := [.ref 70, .int x1, .int x2, .int x3, .int x4, .int (I 2 (((x2 * 6) + x4).toNatClampNeg)), .int (gaps.getD ((((x1 / 4) - (x1 / 4) / 9 * 9) * 9) + (((I 2 (((x2 * 6) + x4).toNatClampNeg)) / 4) - ((I 2 (((x2 * 6) + x4).toNatClampNeg)) / 4) / 9 * 9)).toNatClampNeg 0), .int (((I 1 2) * (gaps.getD ((((x1 / 4) - (x1 / 4) / 9 * 9) * 9) + (((I 2 (((x2 * 6) + x4).toNatClampNeg)) / 4) - ((I 2 (((x2 * 6) + x4).toNatClampNeg)) / 4) / 9 * 9)).toNatClampNeg 0)) + (I 1 3))]) (S := []) (z := (zS I J tg)) rfl c10 ?_
          refine Runs.sN 6 (c' := (131, [.ref 70, .int x1, .int x2, .int x3, .int x4, .int (I 2 (((x2 * 6) + x4).toNatClampNeg)), .int (gaps.getD ((((x1 / 4) - (x1 / 4) / 9 * 9) * 9) + (((I 2 (((x2 * 6) + x4).toNatClampNeg)) / 4) - ((I 2 (((x2 * 6) + x4).toNatClampNeg)) / 4) / 9 * 9)).toNatClampNeg 0), .int (((I 1 2) * (gaps.getD ((((x1 / 4) - (x1 / 4) / 9 * 9) * 9) + (((I 2 (((x2 * 6) + x4).toNatClampNeg)) / 4) - ((I 2 (((x2 * 6) + x4).toNatClampNeg)) / 4) / 9 * 9)).toNatClampNeg 0)) + (I 1 3))], [.int (1 <<< (x4 &&& 31)), .int x3, .ref 73], (zS I J tg))) rfl ?_
          obtain ⟨c11, h⟩ := h
          refine Runs.to (c' := (132, [.ref 70, .int x1, .int x2, .int x3, .int x4, .int (I 2 (((x2 * 6) + x4).toNatClampNeg)), .int (gaps.getD ((((x1 / 4) - (x1 / 4) / 9 * 9) * 9) + (((I 2 (((x2 * 6) + x4).toNatClampNeg)) / 4) - ((I 2 (((x2 * 6) + x4).toNatClampNeg)) / 4) / 9 * 9)).toNatClampNeg 0), .int (((I 1 2) * (gaps.getD ((((x1 / 4) - (x1 / 4) / 9 * 9) * 9) + (((I 2 (((x2 * 6) + x4).toNatClampNeg)) / 4) - ((I 2 (((x2 * 6) + x4).toNatClampNeg)) / 4) / 9 * 9)).toNatClampNeg 0)) + (I 1 3))], [], (zS (up2 I 73 ((x3).toNatClampNeg) (1 <<< (x4 &&& 31))) J tg))) (Runs.ist rfl (show (73 : Nat) < 114 by decide) rfl c11) ?_
          refine Runs.sN 10 (c' := (149, [.ref 70, .int x1, .int x2, .int x3, .int x4, .int (I 2 (((x2 * 6) + x4).toNatClampNeg)), .int (gaps.getD ((((x1 / 4) - (x1 / 4) / 9 * 9) * 9) + (((I 2 (((x2 * 6) + x4).toNatClampNeg)) / 4) - ((I 2 (((x2 * 6) + x4).toNatClampNeg)) / 4) / 9 * 9)).toNatClampNeg 0), .int (((I 1 2) * (gaps.getD ((((x1 / 4) - (x1 / 4) / 9 * 9) * 9) + (((I 2 (((x2 * 6) + x4).toNatClampNeg)) / 4) - ((I 2 (((x2 * 6) + x4).toNatClampNeg)) / 4) / 9 * 9)).toNatClampNeg 0)) + (I 1 3))], [.int ((2 * (I 1 4)) - (((I 1 2) * (gaps.getD ((((x1 / 4) - (x1 / 4) / 9 * 9) * 9) + (((I 2 (((x2 * 6) + x4).toNatClampNeg)) / 4) - ((I 2 (((x2 * 6) + x4).toNatClampNeg)) / 4) / 9 * 9)).toNatClampNeg 0)) + (I 1 3))), .int x3, .ref 74], (zS (up2 I 73 ((x3).toNatClampNeg) (1 <<< (x4 &&& 31))) J tg))) rfl ?_
          obtain ⟨c12, h⟩ := h
          refine Runs.to (c' := (150, [.ref 70, .int x1, .int x2, .int x3, .int x4, .int (I 2 (((x2 * 6) + x4).toNatClampNeg)), .int (gaps.getD ((((x1 / 4) - (x1 / 4) / 9 * 9) * 9) + (((I 2 (((x2 * 6) + x4).toNatClampNeg)) / 4) - ((I 2 (((x2 * 6) + x4).toNatClampNeg)) / 4) / 9 * 9)).toNatClampNeg 0), .int (((I 1 2) * (gaps.getD ((((x1 / 4) - (x1 / 4) / 9 * 9) * 9) + (((I 2 (((x2 * 6) + x4).toNatClampNeg)) / 4) - ((I 2 (((x2 * 6) + x4).toNatClampNeg)) / 4) / 9 * 9)).toNatClampNeg 0)) + (I 1 3))], [], (zS (up2 (up2 I 73 ((x3).toNatClampNeg) (1 <<< (x4 &&& 31))) 74 ((x3).toNatClampNeg) ((2 * (I 1 4)) - (((I 1 2) * (gaps.getD ((((x1 / 4) - (x1 / 4) / 9 * 9) * 9) + (((I 2 (((x2 * 6) + x4).toNatClampNeg)) / 4) - ((I 2 (((x2 * 6) + x4).toNatClampNeg)) / 4) / 9 * 9)).toNatClampNeg 0)) + (I 1 3)))) J tg))) (Runs.ist rfl (show (74 : Nat) < 114 by decide) rfl c12) ?_
          refine Runs.sN 3 (c' := (5, [.ref 70, .int x1, .int x2, .int (x3 + 1), .int (x4 + 1), .int (I 2 (((x2 * 6) + x4).toNatClampNeg)), .int (gaps.getD ((((x1 / 4) - (x1 / 4) / 9 * 9) * 9) + (((I 2 (((x2 * 6) + x4).toNatClampNeg)) / 4) - ((I 2 (((x2 * 6) + x4).toNatClampNeg)) / 4) / 9 * 9)).toNatClampNeg 0), .int (((I 1 2) * (gaps.getD ((((x1 / 4) - (x1 / 4) / 9 * 9) * 9) + (((I 2 (((x2 * 6) + x4).toNatClampNeg)) / 4) - ((I 2 (((x2 * 6) + x4).toNatClampNeg)) / 4) / 9 * 9)).toNatClampNeg 0)) + (I 1 3))], [], (zS (up2 (up2 I 73 ((x3).toNatClampNeg) (1 <<< (x4 &&& 31))) 74 ((x3).toNatClampNeg) ((2 * (I 1 4)) - (((I 1 2) * (gaps.getD ((((x1 / 4) - (x1 / 4) / 9 * 9) * 9) + (((I 2 (((x2 * 6) + x4).toNatClampNeg)) / 4) - ((I 2 (((x2 * 6) + x4).toNatClampNeg)) / 4) / 9 * 9)).toNatClampNeg 0)) + (I 1 3)))) J tg))) rfl ?_
          exact Runs.weak (L := [.ref 70, .int x1, .int x2, .int (x3 + 1), .int (x4 + 1), vU, vU, vU]) (Lle.k (Lle.k (Lle.k (Lle.k (Lle.k (Lle.u (Lle.u (Lle.u Lle.n)))))))) h
    · rw [if_neg c4] at h
      refine Runs.brF (P := ((I 2 (((x2 * 6) + x4).toNatClampNeg)) / 36) = (x1 / 36)) (a := 51) (b := 48) (L := [.ref 70, .int x1, .int x2, .int x3, .int x4, .int (I 2 (((x2 * 6) + x4).toNatClampNeg)), vU, vU]) (S := []) (z := (zS I J tg)) rfl c4 ?_
      refine Runs.sN 3 (c' := (5, [.ref 70, .int x1, .int x2, .int x3, .int (x4 + 1), .int (I 2 (((x2 * 6) + x4).toNatClampNeg)), vU, vU], [], (zS I J tg))) rfl ?_
      exact Runs.weak (L := [.ref 70, .int x1, .int x2, .int x3, .int (x4 + 1), vU, vU, vU]) (Lle.k (Lle.k (Lle.k (Lle.k (Lle.k (Lle.u (Lle.k (Lle.k Lle.n)))))))) h
-- X8_append 
theorem sg_69 {L d : Nat} {xs : Nat → Int32} (I : Nat → Nat → Int32) (J : Nat → Nat → Int64) (tg : Option Nat) (a1 : Int32) {r : Option Value × SS} (h : (Runs (GW L xs) d 69 (3, [.ref 67, .int a1, .int 24], [], (zS I J tg)) r)) : Runs (GW L xs) d 69 (0, [.ref 67, .int a1, vU], [], (zS I J tg)) r := by
  refine Runs.sN 2 (c' := (3, [.ref 67, .int a1, .int 24], [], (zS I J tg))) rfl ?_
  exact h
theorem sg_69_3 {L d : Nat} {xs : Nat → Int32} (I : Nat → Nat → Int32) (J : Nat → Nat → Int64) (tg : Option Nat) (x1 : Int32) (x2 : Int32) {r : Option Value × SS} (h : ((if x2 < 0 then (r = (none, (zS I J tg))) else ((if 300 ≤ (I 67 2) then (Runs (GW L xs) d 69 (3, [.ref 67, .int x1, .int (x2 + (-8))], [], (zS I J tg)) r) else (¬ ((I 67 2) < 0 ∨ 300 ≤ (I 67 2).toNatClampNeg) ∧ Runs (GW L xs) d 69 (3, [.ref 67, .int x1, .int (x2 + (-8))], [], (zS (up2 (up2 I 68 ((I 67 2).toNatClampNeg) ((Int32.toInt8 ((Int32.toInt8 (x1 >>> (x2 &&& 31))).toInt32)).toInt32)) 67 2 ((I 67 2) + 1)) J tg)) r)))))) : Runs (GW L xs) d 69 (3, [.ref 67, .int x1, .int x2], [], (zS I J tg)) r := by
  refine Runs.sN 1 (c' := (4, [.ref 67, .int x1, .int x2], [.int x2], (zS I J tg))) rfl ?_
  by_cases c1 : x2 < 0
  · rw [if_pos c1] at h
    refine Runs.brT (P := x2 < 0) (a := 46) (b := 7) (L := [.ref 67, .int x1, .int x2]) (S := []) (z := (zS I J tg)) rfl c1 ?_
    subst h
    exact Runs.rt rfl
  · rw [if_neg c1] at h
    refine Runs.brF (P := x2 < 0) (a := 46) (b := 7) (L := [.ref 67, .int x1, .int x2]) (S := []) (z := (zS I J tg)) rfl c1 ?_
    refine Runs.sN 3 (c' := (14, [.ref 67, .int x1, .int x2], [.int 300, .int (I 67 2)], (zS I J tg))) rfl ?_
    by_cases c2 : 300 ≤ (I 67 2)
    · rw [if_pos c2] at h
      refine Runs.brT (P := 300 ≤ (I 67 2)) (a := 40) (b := 17) (L := [.ref 67, .int x1, .int x2]) (S := []) (z := (zS I J tg)) rfl c2 ?_
      refine Runs.sN 2 (c' := (3, [.ref 67, .int x1, .int (x2 + (-8))], [], (zS I J tg))) rfl ?_
      exact h
    · rw [if_neg c2] at h
      refine Runs.brF (P := 300 ≤ (I 67 2)) (a := 40) (b := 17) (L := [.ref 67, .int x1, .int x2]) (S := []) (z := (zS I J tg)) rfl c2 ?_
      refine Runs.sN 8 (c' := (29, [.ref 67, .int x1, .int x2], [.int ((Int32.toInt8 (x1 >>> (x2 &&& 31))).toInt32), .int (I 67 2), .ref 68], (zS I J tg))) rfl ?_
      obtain ⟨c3, h⟩ := h
      refine Runs.to (c' := (30, [.ref 67, .int x1, .int x2], [], (zS (up2 I 68 ((I 67 2).toNatClampNeg) ((Int32.toInt8 ((Int32.toInt8 (x1 >>> (x2 &&& 31))).toInt32)).toInt32)) J tg))) (Runs.bst rfl (show (68 : Nat) < 114 by decide) rfl c3) ?_
      refine Runs.sN 8 (c' := (3, [.ref 67, .int x1, .int (x2 + (-8))], [], (zS (up2 (up2 I 68 ((I 67 2).toNatClampNeg) ((Int32.toInt8 ((Int32.toInt8 (x1 >>> (x2 &&& 31))).toInt32)).toInt32)) 67 2 ((I 67 2) + 1)) J tg))) rfl ?_
      exact h
-- X8_scan 
theorem sg_72 {L d : Nat} {xs : Nat → Int32} (I : Nat → Nat → Int32) (J : Nat → Nat → Int64) (tg : Option Nat) {r : Option Value × SS} (h : (Runs (GW L xs) (d + 1) 72 (13, [.ref 67, .int (I 67 15)], [], (zS (up2 I 67 14 (I 67 15)) J tg)) r)) : Runs (GW L xs) (d + 1) 72 (0, [.ref 67, vU], [], (zS I J tg)) r := by
  refine Runs.sN 7 (c' := (13, [.ref 67, .int (I 67 15)], [], (zS (up2 I 67 14 (I 67 15)) J tg))) rfl ?_
  exact h
theorem sg_72_13 {L d : Nat} {xs : Nat → Int32} (I : Nat → Nat → Int32) (J : Nat → Nat → Int64) (tg : Option Nat) (x1 : Int32) {r : Option Value × SS} (h : ((if (I 67 2) ≤ x1 then ((if (I 67 14) < (I 67 2) then (¬ ((I 67 14) < 0 ∨ 300 ≤ (I 67 14).toNatClampNeg) ∧ ∃ (v1 : Int32) (I2 : Nat → Nat → Int32), Runs (GW L xs) d 73 (0, [.int (I 68 ((I 67 14).toNatClampNeg))], [], (zS (up2 I 67 15 (I 67 14)) J tg)) ((some (.int v1)), (zS I2 J tg)) ∧ (if v1 = 0 then (¬ ((I2 67 14) < 0 ∨ 300 ≤ (I2 67 14).toNatClampNeg) ∧ ∃ (v3 : Int32) (I4 : Nat → Nat → Int32), Runs (GW L xs) d 74 (0, [.int (I2 68 ((I2 67 14).toNatClampNeg))], [], (zS I2 J tg)) ((some (.int v3)), (zS I4 J tg)) ∧ (if v3 = 0 then (∃ (I5 : Nat → Nat → Int32), Runs (GW L xs) d 78 (0, [.ref 67, vU], [], (zS I4 J tg)) (none, (zS I5 J tg)) ∧ r = (none, (zS I5 J tg))) else (∃ (I6 : Nat → Nat → Int32), Runs (GW L xs) d 76 (0, [.ref 67, vU], [], (zS I4 J tg)) (none, (zS I6 J tg)) ∧ r = (none, (zS I6 J tg))))) else (∃ (I7 : Nat → Nat → Int32), Runs (GW L xs) d 75 (0, [.ref 67, vU], [], (zS I2 J tg)) (none, (zS I7 J tg)) ∧ r = (none, (zS I7 J tg))))) else (r = (none, (zS (up2 (up2 I 67 15 (I 67 14)) 67 12 0) J tg))))) else (¬ (x1 < 0 ∨ 300 ≤ (x1).toNatClampNeg) ∧ (if (I 68 ((x1).toNatClampNeg)) = 32 then (Runs (GW L xs) (d + 1) 72 (13, [.ref 67, .int (x1 + 1)], [], (zS (up2 I 67 14 (x1 + 1)) J tg)) r) else (¬ (x1 < 0 ∨ 300 ≤ (x1).toNatClampNeg) ∧ (if (I 68 ((x1).toNatClampNeg)) = 10 then (Runs (GW L xs) (d + 1) 72 (13, [.ref 67, .int (x1 + 1)], [], (zS (up2 I 67 14 (x1 + 1)) J tg)) r) else ((if (I 67 14) < (I 67 2) then (¬ ((I 67 14) < 0 ∨ 300 ≤ (I 67 14).toNatClampNeg) ∧ ∃ (v8 : Int32) (I9 : Nat → Nat → Int32), Runs (GW L xs) d 73 (0, [.int (I 68 ((I 67 14).toNatClampNeg))], [], (zS (up2 I 67 15 (I 67 14)) J tg)) ((some (.int v8)), (zS I9 J tg)) ∧ (if v8 = 0 then (¬ ((I9 67 14) < 0 ∨ 300 ≤ (I9 67 14).toNatClampNeg) ∧ ∃ (v10 : Int32) (I11 : Nat → Nat → Int32), Runs (GW L xs) d 74 (0, [.int (I9 68 ((I9 67 14).toNatClampNeg))], [], (zS I9 J tg)) ((some (.int v10)), (zS I11 J tg)) ∧ (if v10 = 0 then (∃ (I12 : Nat → Nat → Int32), Runs (GW L xs) d 78 (0, [.ref 67, vU], [], (zS I11 J tg)) (none, (zS I12 J tg)) ∧ r = (none, (zS I12 J tg))) else (∃ (I13 : Nat → Nat → Int32), Runs (GW L xs) d 76 (0, [.ref 67, vU], [], (zS I11 J tg)) (none, (zS I13 J tg)) ∧ r = (none, (zS I13 J tg))))) else (∃ (I14 : Nat → Nat → Int32), Runs (GW L xs) d 75 (0, [.ref 67, vU], [], (zS I9 J tg)) (none, (zS I14 J tg)) ∧ r = (none, (zS I14 J tg))))) else (r = (none, (zS (up2 (up2 I 67 15 (I 67 14)) 67 12 0) J tg)))))))))))) : Runs (GW L xs) (d + 1) 72 (13, [.ref 67, .int x1], [], (zS I J tg)) r := by
  refine Runs.sN 3 (c' := (18, [.ref 67, .int x1], [.int (I 67 2), .int x1], (zS I J tg))) rfl ?_
  by_cases c15 : (I 67 2) ≤ x1
  · rw [if_pos c15] at h
    refine Runs.brT (P := (I 67 2) ≤ x1) (a := 56) (b := 21) (L := [.ref 67, .int x1]) (S := []) (z := (zS I J tg)) rfl c15 ?_
    refine Runs.sN 8 (c' := (72, [.ref 67, .int x1], [.int (I 67 2), .int (I 67 14)], (zS (up2 I 67 15 (I 67 14)) J tg))) rfl ?_
    by_cases c16 : (I 67 14) < (I 67 2)
    · rw [if_pos c16] at h
      refine Runs.brT (P := (I 67 14) < (I 67 2)) (a := 83) (b := 75) (L := [.ref 67, .int x1]) (S := []) (z := (zS (up2 I 67 15 (I 67 14)) J tg)) rfl c16 ?_
      refine Runs.sN 4 (c' := (91, [.ref 67, .int x1], [.int (I 67 14), .ref 68], (zS (up2 I 67 15 (I 67 14)) J tg))) rfl ?_
      obtain ⟨c17, h⟩ := h
      refine Runs.to (c' := (92, [.ref 67, .int x1], [.int (I 68 ((I 67 14).toNatClampNeg))], (zS (up2 I 67 15 (I 67 14)) J tg))) (Runs.bld rfl (show (68 : Nat) < 114 by decide) rfl c17) ?_
      obtain ⟨v1, I2, c18, h⟩ := h
      refine Runs.cl (cm := 73) (as := [.int (I 68 ((I 67 14).toNatClampNeg))]) (rest := []) (r1 := ((some (.int v1)), (zS I2 J tg))) rfl (Nat.le_of_ble_eq_true rfl) c18 ?_
      refine Runs.as (c' := (95, [.ref 67, .int x1], [.int v1], (zS I2 J tg))) rfl ?_
      by_cases c19 : v1 = 0
      · rw [if_pos c19] at h
        refine Runs.brT (P := v1 = 0) (a := 105) (b := 98) (L := [.ref 67, .int x1]) (S := []) (z := (zS I2 J tg)) rfl c19 ?_
        refine Runs.sN 4 (c' := (113, [.ref 67, .int x1], [.int (I2 67 14), .ref 68], (zS I2 J tg))) rfl ?_
        obtain ⟨c20, h⟩ := h
        refine Runs.to (c' := (114, [.ref 67, .int x1], [.int (I2 68 ((I2 67 14).toNatClampNeg))], (zS I2 J tg))) (Runs.bld rfl (show (68 : Nat) < 114 by decide) rfl c20) ?_
        obtain ⟨v3, I4, c21, h⟩ := h
        refine Runs.cl (cm := 74) (as := [.int (I2 68 ((I2 67 14).toNatClampNeg))]) (rest := []) (r1 := ((some (.int v3)), (zS I4 J tg))) rfl (Nat.le_of_ble_eq_true rfl) c21 ?_
        refine Runs.as (c' := (117, [.ref 67, .int x1], [.int v3], (zS I4 J tg))) rfl ?_
        by_cases c22 : v3 = 0
        · rw [if_pos c22] at h
          refine Runs.brT (P := v3 = 0) (a := 127) (b := 120) (L := [.ref 67, .int x1]) (S := []) (z := (zS I4 J tg)) rfl c22 ?_
          refine Runs.sN 1 (c' := (128, [.ref 67, .int x1], [.ref 67], (zS I4 J tg))) rfl ?_
          obtain ⟨I5, c23, h⟩ := h
          refine Runs.cl (cm := 78) (as := [.ref 67]) (rest := []) (r1 := (none, (zS I5 J tg))) rfl (Nat.le_of_ble_eq_true rfl) c23 ?_
          refine Runs.as (c' := (131, [.ref 67, .int x1], [], (zS I5 J tg))) rfl ?_
          subst h
          exact Runs.rt rfl
        · rw [if_neg c22] at h
          refine Runs.brF (P := v3 = 0) (a := 127) (b := 120) (L := [.ref 67, .int x1]) (S := []) (z := (zS I4 J tg)) rfl c22 ?_
          refine Runs.sN 1 (c' := (121, [.ref 67, .int x1], [.ref 67], (zS I4 J tg))) rfl ?_
          obtain ⟨I6, c24, h⟩ := h
          refine Runs.cl (cm := 76) (as := [.ref 67]) (rest := []) (r1 := (none, (zS I6 J tg))) rfl (Nat.le_of_ble_eq_true rfl) c24 ?_
          refine Runs.as (c' := (124, [.ref 67, .int x1], [], (zS I6 J tg))) rfl ?_
          refine Runs.sN 1 (c' := (131, [.ref 67, .int x1], [], (zS I6 J tg))) rfl ?_
          subst h
          exact Runs.rt rfl
      · rw [if_neg c19] at h
        refine Runs.brF (P := v1 = 0) (a := 105) (b := 98) (L := [.ref 67, .int x1]) (S := []) (z := (zS I2 J tg)) rfl c19 ?_
        refine Runs.sN 1 (c' := (99, [.ref 67, .int x1], [.ref 67], (zS I2 J tg))) rfl ?_
        obtain ⟨I7, c25, h⟩ := h
        refine Runs.cl (cm := 75) (as := [.ref 67]) (rest := []) (r1 := (none, (zS I7 J tg))) rfl (Nat.le_of_ble_eq_true rfl) c25 ?_
        refine Runs.as (c' := (102, [.ref 67, .int x1], [], (zS I7 J tg))) rfl ?_
        refine Runs.sN 1 (c' := (131, [.ref 67, .int x1], [], (zS I7 J tg))) rfl ?_
        subst h
        exact Runs.rt rfl
    · rw [if_neg c16] at h
      refine Runs.brF (P := (I 67 14) < (I 67 2)) (a := 83) (b := 75) (L := [.ref 67, .int x1]) (S := []) (z := (zS (up2 I 67 15 (I 67 14)) J tg)) rfl c16 ?_
      refine Runs.sN 4 (c' := (131, [.ref 67, .int x1], [], (zS (up2 (up2 I 67 15 (I 67 14)) 67 12 0) J tg))) rfl ?_
      subst h
      exact Runs.rt rfl
  · rw [if_neg c15] at h
    refine Runs.brF (P := (I 67 2) ≤ x1) (a := 56) (b := 21) (L := [.ref 67, .int x1]) (S := []) (z := (zS I J tg)) rfl c15 ?_
    refine Runs.sN 3 (c' := (26, [.ref 67, .int x1], [.int x1, .ref 68], (zS I J tg))) rfl ?_
    obtain ⟨c26, h⟩ := h
    refine Runs.to (c' := (27, [.ref 67, .int x1], [.int (I 68 ((x1).toNatClampNeg))], (zS I J tg))) (Runs.bld rfl (show (68 : Nat) < 114 by decide) rfl c26) ?_
    refine Runs.sN 1 (c' := (29, [.ref 67, .int x1], [.int 32, .int (I 68 ((x1).toNatClampNeg))], (zS I J tg))) rfl ?_
    by_cases c27 : (I 68 ((x1).toNatClampNeg)) = 32
    · rw [if_pos c27] at h
      refine Runs.brT (P := (I 68 ((x1).toNatClampNeg)) = 32) (a := 43) (b := 32) (L := [.ref 67, .int x1]) (S := []) (z := (zS I J tg)) rfl c27 ?_
      refine Runs.sN 7 (c' := (13, [.ref 67, .int (x1 + 1)], [], (zS (up2 I 67 14 (x1 + 1)) J tg))) rfl ?_
      exact h
    · rw [if_neg c27] at h
      refine Runs.brF (P := (I 68 ((x1).toNatClampNeg)) = 32) (a := 43) (b := 32) (L := [.ref 67, .int x1]) (S := []) (z := (zS I J tg)) rfl c27 ?_
      refine Runs.sN 3 (c' := (37, [.ref 67, .int x1], [.int x1, .ref 68], (zS I J tg))) rfl ?_
      obtain ⟨c28, h⟩ := h
      refine Runs.to (c' := (38, [.ref 67, .int x1], [.int (I 68 ((x1).toNatClampNeg))], (zS I J tg))) (Runs.bld rfl (show (68 : Nat) < 114 by decide) rfl c28) ?_
      refine Runs.sN 1 (c' := (40, [.ref 67, .int x1], [.int 10, .int (I 68 ((x1).toNatClampNeg))], (zS I J tg))) rfl ?_
      by_cases c29 : (I 68 ((x1).toNatClampNeg)) = 10
      · rw [if_pos c29] at h
        refine Runs.brT (P := (I 68 ((x1).toNatClampNeg)) = 10) (a := 43) (b := 56) (L := [.ref 67, .int x1]) (S := []) (z := (zS I J tg)) rfl c29 ?_
        refine Runs.sN 7 (c' := (13, [.ref 67, .int (x1 + 1)], [], (zS (up2 I 67 14 (x1 + 1)) J tg))) rfl ?_
        exact h
      · rw [if_neg c29] at h
        refine Runs.brF (P := (I 68 ((x1).toNatClampNeg)) = 10) (a := 43) (b := 56) (L := [.ref 67, .int x1]) (S := []) (z := (zS I J tg)) rfl c29 ?_
        refine Runs.sN 8 (c' := (72, [.ref 67, .int x1], [.int (I 67 2), .int (I 67 14)], (zS (up2 I 67 15 (I 67 14)) J tg))) rfl ?_
        by_cases c30 : (I 67 14) < (I 67 2)
        · rw [if_pos c30] at h
          refine Runs.brT (P := (I 67 14) < (I 67 2)) (a := 83) (b := 75) (L := [.ref 67, .int x1]) (S := []) (z := (zS (up2 I 67 15 (I 67 14)) J tg)) rfl c30 ?_
          refine Runs.sN 4 (c' := (91, [.ref 67, .int x1], [.int (I 67 14), .ref 68], (zS (up2 I 67 15 (I 67 14)) J tg))) rfl ?_
          obtain ⟨c31, h⟩ := h
          refine Runs.to (c' := (92, [.ref 67, .int x1], [.int (I 68 ((I 67 14).toNatClampNeg))], (zS (up2 I 67 15 (I 67 14)) J tg))) (Runs.bld rfl (show (68 : Nat) < 114 by decide) rfl c31) ?_
          obtain ⟨v8, I9, c32, h⟩ := h
          refine Runs.cl (cm := 73) (as := [.int (I 68 ((I 67 14).toNatClampNeg))]) (rest := []) (r1 := ((some (.int v8)), (zS I9 J tg))) rfl (Nat.le_of_ble_eq_true rfl) c32 ?_
          refine Runs.as (c' := (95, [.ref 67, .int x1], [.int v8], (zS I9 J tg))) rfl ?_
          by_cases c33 : v8 = 0
          · rw [if_pos c33] at h
            refine Runs.brT (P := v8 = 0) (a := 105) (b := 98) (L := [.ref 67, .int x1]) (S := []) (z := (zS I9 J tg)) rfl c33 ?_
            refine Runs.sN 4 (c' := (113, [.ref 67, .int x1], [.int (I9 67 14), .ref 68], (zS I9 J tg))) rfl ?_
            obtain ⟨c34, h⟩ := h
            refine Runs.to (c' := (114, [.ref 67, .int x1], [.int (I9 68 ((I9 67 14).toNatClampNeg))], (zS I9 J tg))) (Runs.bld rfl (show (68 : Nat) < 114 by decide) rfl c34) ?_
            obtain ⟨v10, I11, c35, h⟩ := h
            refine Runs.cl (cm := 74) (as := [.int (I9 68 ((I9 67 14).toNatClampNeg))]) (rest := []) (r1 := ((some (.int v10)), (zS I11 J tg))) rfl (Nat.le_of_ble_eq_true rfl) c35 ?_
            refine Runs.as (c' := (117, [.ref 67, .int x1], [.int v10], (zS I11 J tg))) rfl ?_
            by_cases c36 : v10 = 0
            · rw [if_pos c36] at h
              refine Runs.brT (P := v10 = 0) (a := 127) (b := 120) (L := [.ref 67, .int x1]) (S := []) (z := (zS I11 J tg)) rfl c36 ?_
              refine Runs.sN 1 (c' := (128, [.ref 67, .int x1], [.ref 67], (zS I11 J tg))) rfl ?_
              obtain ⟨I12, c37, h⟩ := h
              refine Runs.cl (cm := 78) (as := [.ref 67]) (rest := []) (r1 := (none, (zS I12 J tg))) rfl (Nat.le_of_ble_eq_true rfl) c37 ?_
              refine Runs.as (c' := (131, [.ref 67, .int x1], [], (zS I12 J tg))) rfl ?_
              subst h
              exact Runs.rt rfl
            · rw [if_neg c36] at h
              refine Runs.brF (P := v10 = 0) (a := 127) (b := 120) (L := [.ref 67, .int x1]) (S := []) (z := (zS I11 J tg)) rfl c36 ?_
              refine Runs.sN 1 (c' := (121, [.ref 67, .int x1], [.ref 67], (zS I11 J tg))) rfl ?_
              obtain ⟨I13, c38, h⟩ := h
              refine Runs.cl (cm := 76) (as := [.ref 67]) (rest := []) (r1 := (none, (zS I13 J tg))) rfl (Nat.le_of_ble_eq_true rfl) c38 ?_
              refine Runs.as (c' := (124, [.ref 67, .int x1], [], (zS I13 J tg))) rfl ?_
              refine Runs.sN 1 (c' := (131, [.ref 67, .int x1], [], (zS I13 J tg))) rfl ?_
              subst h
              exact Runs.rt rfl
          · rw [if_neg c33] at h
            refine Runs.brF (P := v8 = 0) (a := 105) (b := 98) (L := [.ref 67, .int x1]) (S := []) (z := (zS I9 J tg)) rfl c33 ?_
            refine Runs.sN 1 (c' := (99, [.ref 67, .int x1], [.ref 67], (zS I9 J tg))) rfl ?_
            obtain ⟨I14, c39, h⟩ := h
            refine Runs.cl (cm := 75) (as := [.ref 67]) (rest := []) (r1 := (none, (zS I14 J tg))) rfl (Nat.le_of_ble_eq_true rfl) c39 ?_
            refine Runs.as (c' := (102, [.ref 67, .int x1], [], (zS I14 J tg))) rfl ?_
            refine Runs.sN 1 (c' := (131, [.ref 67, .int x1], [], (zS I14 J tg))) rfl ?_
            subst h
            exact Runs.rt rfl
        · rw [if_neg c30] at h
          refine Runs.brF (P := (I 67 14) < (I 67 2)) (a := 83) (b := 75) (L := [.ref 67, .int x1]) (S := []) (z := (zS (up2 I 67 15 (I 67 14)) J tg)) rfl c30 ?_
          refine Runs.sN 4 (c' := (131, [.ref 67, .int x1], [], (zS (up2 (up2 I 67 15 (I 67 14)) 67 12 0) J tg))) rfl ?_
          subst h
          exact Runs.rt rfl
-- X8_isDigit 
theorem sg_73 {L d : Nat} {xs : Nat → Int32} (I : Nat → Nat → Int32) (J : Nat → Nat → Int64) (tg : Option Nat) (a1 : Int32) {r : Option Value × SS} (h : ((if a1 < 48 then (r = (some (.int 0), (zS I J tg))) else ((if 57 < a1 then (r = (some (.int 0), (zS I J tg))) else (r = (some (.int 1), (zS I J tg)))))))) : Runs (GW L xs) d 73 (0, [.int a1], [], (zS I J tg)) r := by
  refine Runs.sN 2 (c' := (3, [.int a1], [.int 48, .int a1], (zS I J tg))) rfl ?_
  by_cases c1 : a1 < 48
  · rw [if_pos c1] at h
    refine Runs.brT (P := a1 < 48) (a := 16) (b := 6) (L := [.int a1]) (S := []) (z := (zS I J tg)) rfl c1 ?_
    refine Runs.sN 1 (c' := (17, [.int a1], [.int 0], (zS I J tg))) rfl ?_
    subst h
    exact Runs.rt rfl
  · rw [if_neg c1] at h
    refine Runs.brF (P := a1 < 48) (a := 16) (b := 6) (L := [.int a1]) (S := []) (z := (zS I J tg)) rfl c1 ?_
    refine Runs.sN 2 (c' := (9, [.int a1], [.int 57, .int a1], (zS I J tg))) rfl ?_
    by_cases c2 : 57 < a1
    · rw [if_pos c2] at h
      refine Runs.brT (P := 57 < a1) (a := 16) (b := 12) (L := [.int a1]) (S := []) (z := (zS I J tg)) rfl c2 ?_
      refine Runs.sN 1 (c' := (17, [.int a1], [.int 0], (zS I J tg))) rfl ?_
      subst h
      exact Runs.rt rfl
    · rw [if_neg c2] at h
      refine Runs.brF (P := 57 < a1) (a := 16) (b := 12) (L := [.int a1]) (S := []) (z := (zS I J tg)) rfl c2 ?_
      refine Runs.sN 2 (c' := (17, [.int a1], [.int 1], (zS I J tg))) rfl ?_
      subst h
      exact Runs.rt rfl
-- X8_isLetter 
theorem sg_74 {L d : Nat} {xs : Nat → Int32} (I : Nat → Nat → Int32) (J : Nat → Nat → Int64) (tg : Option Nat) (a1 : Int32) {r : Option Value × SS} (h : ((if a1 < 97 then ((if a1 < 65 then (r = (some (.int 0), (zS I J tg))) else ((if 90 < a1 then (r = (some (.int 0), (zS I J tg))) else (r = (some (.int 1), (zS I J tg))))))) else ((if a1 ≤ 122 then (r = (some (.int 1), (zS I J tg))) else ((if a1 < 65 then (r = (some (.int 0), (zS I J tg))) else ((if 90 < a1 then (r = (some (.int 0), (zS I J tg))) else (r = (some (.int 1), (zS I J tg)))))))))))) : Runs (GW L xs) d 74 (0, [.int a1], [], (zS I J tg)) r := by
  refine Runs.sN 2 (c' := (3, [.int a1], [.int 97, .int a1], (zS I J tg))) rfl ?_
  by_cases c1 : a1 < 97
  · rw [if_pos c1] at h
    refine Runs.brT (P := a1 < 97) (a := 12) (b := 6) (L := [.int a1]) (S := []) (z := (zS I J tg)) rfl c1 ?_
    refine Runs.sN 2 (c' := (15, [.int a1], [.int 65, .int a1], (zS I J tg))) rfl ?_
    by_cases c2 : a1 < 65
    · rw [if_pos c2] at h
      refine Runs.brT (P := a1 < 65) (a := 28) (b := 18) (L := [.int a1]) (S := []) (z := (zS I J tg)) rfl c2 ?_
      refine Runs.sN 1 (c' := (29, [.int a1], [.int 0], (zS I J tg))) rfl ?_
      subst h
      exact Runs.rt rfl
    · rw [if_neg c2] at h
      refine Runs.brF (P := a1 < 65) (a := 28) (b := 18) (L := [.int a1]) (S := []) (z := (zS I J tg)) rfl c2 ?_
      refine Runs.sN 2 (c' := (21, [.int a1], [.int 90, .int a1], (zS I J tg))) rfl ?_
      by_cases c3 : 90 < a1
      · rw [if_pos c3] at h
        refine Runs.brT (P := 90 < a1) (a := 28) (b := 24) (L := [.int a1]) (S := []) (z := (zS I J tg)) rfl c3 ?_
        refine Runs.sN 1 (c' := (29, [.int a1], [.int 0], (zS I J tg))) rfl ?_
        subst h
        exact Runs.rt rfl
      · rw [if_neg c3] at h
        refine Runs.brF (P := 90 < a1) (a := 28) (b := 24) (L := [.int a1]) (S := []) (z := (zS I J tg)) rfl c3 ?_
        refine Runs.sN 2 (c' := (29, [.int a1], [.int 1], (zS I J tg))) rfl ?_
        subst h
        exact Runs.rt rfl
  · rw [if_neg c1] at h
    refine Runs.brF (P := a1 < 97) (a := 12) (b := 6) (L := [.int a1]) (S := []) (z := (zS I J tg)) rfl c1 ?_
    refine Runs.sN 2 (c' := (9, [.int a1], [.int 122, .int a1], (zS I J tg))) rfl ?_
    by_cases c4 : a1 ≤ 122
    · rw [if_pos c4] at h
      refine Runs.brT (P := a1 ≤ 122) (a := 24) (b := 12) (L := [.int a1]) (S := []) (z := (zS I J tg)) rfl c4 ?_
      refine Runs.sN 2 (c' := (29, [.int a1], [.int 1], (zS I J tg))) rfl ?_
      subst h
      exact Runs.rt rfl
    · rw [if_neg c4] at h
      refine Runs.brF (P := a1 ≤ 122) (a := 24) (b := 12) (L := [.int a1]) (S := []) (z := (zS I J tg)) rfl c4 ?_
      refine Runs.sN 2 (c' := (15, [.int a1], [.int 65, .int a1], (zS I J tg))) rfl ?_
      by_cases c5 : a1 < 65
      · rw [if_pos c5] at h
        refine Runs.brT (P := a1 < 65) (a := 28) (b := 18) (L := [.int a1]) (S := []) (z := (zS I J tg)) rfl c5 ?_
        refine Runs.sN 1 (c' := (29, [.int a1], [.int 0], (zS I J tg))) rfl ?_
        subst h
        exact Runs.rt rfl
      · rw [if_neg c5] at h
        refine Runs.brF (P := a1 < 65) (a := 28) (b := 18) (L := [.int a1]) (S := []) (z := (zS I J tg)) rfl c5 ?_
        refine Runs.sN 2 (c' := (21, [.int a1], [.int 90, .int a1], (zS I J tg))) rfl ?_
        by_cases c6 : 90 < a1
        · rw [if_pos c6] at h
          refine Runs.brT (P := 90 < a1) (a := 28) (b := 24) (L := [.int a1]) (S := []) (z := (zS I J tg)) rfl c6 ?_
          refine Runs.sN 1 (c' := (29, [.int a1], [.int 0], (zS I J tg))) rfl ?_
          subst h
          exact Runs.rt rfl
        · rw [if_neg c6] at h
          refine Runs.brF (P := 90 < a1) (a := 28) (b := 24) (L := [.int a1]) (S := []) (z := (zS I J tg)) rfl c6 ?_
          refine Runs.sN 2 (c' := (29, [.int a1], [.int 1], (zS I J tg))) rfl ?_
          subst h
          exact Runs.rt rfl
-- X8_scanNumber 
theorem sg_75 {L d : Nat} {xs : Nat → Int32} (I : Nat → Nat → Int32) (J : Nat → Nat → Int64) (tg : Option Nat) {r : Option Value × SS} (h : (Runs (GW L xs) (d + 1) 75 (15, [.ref 67, .int (I 67 14)], [], (zS (up2 (up2 I 67 12 2) 67 13 0) J tg)) r)) : Runs (GW L xs) (d + 1) 75 (0, [.ref 67, vU], [], (zS I J tg)) r := by
  refine Runs.sN 9 (c' := (15, [.ref 67, .int (I 67 14)], [], (zS (up2 (up2 I 67 12 2) 67 13 0) J tg))) rfl ?_
  exact h
theorem sg_75_15 {L d : Nat} {xs : Nat → Int32} (I : Nat → Nat → Int32) (J : Nat → Nat → Int64) (tg : Option Nat) (x1 : Int32) {r : Option Value × SS} (h : ((if (I 67 2) ≤ x1 then (r = (none, (zS I J tg))) else (¬ (x1 < 0 ∨ 300 ≤ (x1).toNatClampNeg) ∧ ∃ (v1 : Int32) (I2 : Nat → Nat → Int32), Runs (GW L xs) d 73 (0, [.int (I 68 ((x1).toNatClampNeg))], [], (zS I J tg)) ((some (.int v1)), (zS I2 J tg)) ∧ (if v1 = 0 then (r = (none, (zS I2 J tg))) else (¬ (x1 < 0 ∨ 300 ≤ (x1).toNatClampNeg) ∧ Runs (GW L xs) (d + 1) 75 (15, [.ref 67, .int (x1 + 1)], [], (zS (up2 (up2 I2 67 13 (if ((((I2 67 13) * 10) + (I2 68 ((x1).toNatClampNeg))) - 48) < 10000 then ((((I2 67 13) * 10) + (I2 68 ((x1).toNatClampNeg))) - 48) else 10000)) 67 15 (x1 + 1)) J tg)) r)))))) : Runs (GW L xs) (d + 1) 75 (15, [.ref 67, .int x1], [], (zS I J tg)) r := by
  refine Runs.sN 3 (c' := (20, [.ref 67, .int x1], [.int (I 67 2), .int x1], (zS I J tg))) rfl ?_
  by_cases c3 : (I 67 2) ≤ x1
  · rw [if_pos c3] at h
    refine Runs.brT (P := (I 67 2) ≤ x1) (a := 75) (b := 23) (L := [.ref 67, .int x1]) (S := []) (z := (zS I J tg)) rfl c3 ?_
    subst h
    exact Runs.rt rfl
  · rw [if_neg c3] at h
    refine Runs.brF (P := (I 67 2) ≤ x1) (a := 75) (b := 23) (L := [.ref 67, .int x1]) (S := []) (z := (zS I J tg)) rfl c3 ?_
    refine Runs.sN 3 (c' := (28, [.ref 67, .int x1], [.int x1, .ref 68], (zS I J tg))) rfl ?_
    obtain ⟨c4, h⟩ := h
    refine Runs.to (c' := (29, [.ref 67, .int x1], [.int (I 68 ((x1).toNatClampNeg))], (zS I J tg))) (Runs.bld rfl (show (68 : Nat) < 114 by decide) rfl c4) ?_
    obtain ⟨v1, I2, c5, h⟩ := h
    refine Runs.cl (cm := 73) (as := [.int (I 68 ((x1).toNatClampNeg))]) (rest := []) (r1 := ((some (.int v1)), (zS I2 J tg))) rfl (Nat.le_of_ble_eq_true rfl) c5 ?_
    refine Runs.as (c' := (32, [.ref 67, .int x1], [.int v1], (zS I2 J tg))) rfl ?_
    by_cases c6 : v1 = 0
    · rw [if_pos c6] at h
      refine Runs.brT (P := v1 = 0) (a := 75) (b := 35) (L := [.ref 67, .int x1]) (S := []) (z := (zS I2 J tg)) rfl c6 ?_
      subst h
      exact Runs.rt rfl
    · rw [if_neg c6] at h
      refine Runs.brF (P := v1 = 0) (a := 75) (b := 35) (L := [.ref 67, .int x1]) (S := []) (z := (zS I2 J tg)) rfl c6 ?_
      refine Runs.sN 9 (c' := (51, [.ref 67, .int x1], [.int x1, .ref 68, .int ((I2 67 13) * 10), .int 10000, .ref 67], (zS I2 J tg))) rfl ?_
      obtain ⟨c7, h⟩ := h
      refine Runs.to (c' := (52, [.ref 67, .int x1], [.int (I2 68 ((x1).toNatClampNeg)), .int ((I2 67 13) * 10), .int 10000, .ref 67], (zS I2 J tg))) (Runs.bld rfl (show (68 : Nat) < 114 by decide) rfl c7) ?_
      refine Runs.sN 12 (c' := (15, [.ref 67, .int (x1 + 1)], [], (zS (up2 (up2 I2 67 13 (if ((((I2 67 13) * 10) + (I2 68 ((x1).toNatClampNeg))) - 48) < 10000 then ((((I2 67 13) * 10) + (I2 68 ((x1).toNatClampNeg))) - 48) else 10000)) 67 15 (x1 + 1)) J tg))) rfl ?_
      exact h
