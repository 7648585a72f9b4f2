-- X9_theGrammar g47
theorem sg_91g47 {L d : Nat} {xs : Nat → Int32} (I : Nat → Nat → Int32) (J : Nat → Nat → Int64) (tg : Option Nat) {r : Option Value × SS} (h : ((if (I 18 1) = (-1) then ((4 : Int32) = 0 ∧ r = (some (.ref 47), (zS I J tg))) else ((I 18 1) = 0 ∧ r = (some (.ref 47), (zS I J tg)))))) : Runs (GW L xs) d 91 (0, [.ref 75], [], (zS I J tg)) r := by
  refine Runs.sN 6 (c' := (12, [.ref 75], [.int (-1), .int (I 18 1), .ref 46], (zS I J tg))) rfl ?_
  by_cases c1 : (I 18 1) = (-1)
  · rw [if_pos c1] at h
    refine Runs.brT (P := (I 18 1) = (-1)) (a := 15) (b := 19) (L := [.ref 75]) (S := [.ref 46]) (z := (zS I J tg)) rfl c1 ?_
    refine Runs.sN 2 (c' := (26, [.ref 75], [.int 4, .ref 46], (zS I J tg))) rfl ?_
    obtain ⟨c2, h⟩ := h
    refine Runs.to (c' := (27, [.ref 75], [.ref 47], (zS I J tg))) (by rw [c2]; rfl) ?_
    subst h
    exact Runs.rt rfl
  · rw [if_neg c1] at h
    refine Runs.brF (P := (I 18 1) = (-1)) (a := 15) (b := 19) (L := [.ref 75]) (S := [.ref 46]) (z := (zS I J tg)) rfl c1 ?_
    refine Runs.sN 3 (c' := (26, [.ref 75], [.int (I 18 1), .ref 46], (zS I J tg))) rfl ?_
    obtain ⟨c3, h⟩ := h
    refine Runs.to (c' := (27, [.ref 75], [.ref 47], (zS I J tg))) (by rw [c3]; rfl) ?_
    subst h
    exact Runs.rt rfl
-- X9_theGrammar g51
theorem sg_91g51 {L d : Nat} {xs : Nat → Int32} (I : Nat → Nat → Int32) (J : Nat → Nat → Int64) (tg : Option Nat) {r : Option Value × SS} (h : ((if (I 18 1) = (-1) then ((4 : Int32) = 1 ∧ r = (some (.ref 51), (zS I J tg))) else ((I 18 1) = 1 ∧ r = (some (.ref 51), (zS I J tg)))))) : Runs (GW L xs) d 91 (0, [.ref 75], [], (zS I J tg)) r := by
  refine Runs.sN 6 (c' := (12, [.ref 75], [.int (-1), .int (I 18 1), .ref 46], (zS I J tg))) rfl ?_
  by_cases c1 : (I 18 1) = (-1)
  · rw [if_pos c1] at h
    refine Runs.brT (P := (I 18 1) = (-1)) (a := 15) (b := 19) (L := [.ref 75]) (S := [.ref 46]) (z := (zS I J tg)) rfl c1 ?_
    refine Runs.sN 2 (c' := (26, [.ref 75], [.int 4, .ref 46], (zS I J tg))) rfl ?_
    obtain ⟨c2, h⟩ := h
    refine Runs.to (c' := (27, [.ref 75], [.ref 51], (zS I J tg))) (by rw [c2]; rfl) ?_
    subst h
    exact Runs.rt rfl
  · rw [if_neg c1] at h
    refine Runs.brF (P := (I 18 1) = (-1)) (a := 15) (b := 19) (L := [.ref 75]) (S := [.ref 46]) (z := (zS I J tg)) rfl c1 ?_
    refine Runs.sN 3 (c' := (26, [.ref 75], [.int (I 18 1), .ref 46], (zS I J tg))) rfl ?_
    obtain ⟨c3, h⟩ := h
    refine Runs.to (c' := (27, [.ref 75], [.ref 51], (zS I J tg))) (by rw [c3]; rfl) ?_
    subst h
    exact Runs.rt rfl
-- X9_theGrammar g55
theorem sg_91g55 {L d : Nat} {xs : Nat → Int32} (I : Nat → Nat → Int32) (J : Nat → Nat → Int64) (tg : Option Nat) {r : Option Value × SS} (h : ((if (I 18 1) = (-1) then ((4 : Int32) = 2 ∧ r = (some (.ref 55), (zS I J tg))) else ((I 18 1) = 2 ∧ r = (some (.ref 55), (zS I J tg)))))) : Runs (GW L xs) d 91 (0, [.ref 75], [], (zS I J tg)) r := by
  refine Runs.sN 6 (c' := (12, [.ref 75], [.int (-1), .int (I 18 1), .ref 46], (zS I J tg))) rfl ?_
  by_cases c1 : (I 18 1) = (-1)
  · rw [if_pos c1] at h
    refine Runs.brT (P := (I 18 1) = (-1)) (a := 15) (b := 19) (L := [.ref 75]) (S := [.ref 46]) (z := (zS I J tg)) rfl c1 ?_
    refine Runs.sN 2 (c' := (26, [.ref 75], [.int 4, .ref 46], (zS I J tg))) rfl ?_
    obtain ⟨c2, h⟩ := h
    refine Runs.to (c' := (27, [.ref 75], [.ref 55], (zS I J tg))) (by rw [c2]; rfl) ?_
    subst h
    exact Runs.rt rfl
  · rw [if_neg c1] at h
    refine Runs.brF (P := (I 18 1) = (-1)) (a := 15) (b := 19) (L := [.ref 75]) (S := [.ref 46]) (z := (zS I J tg)) rfl c1 ?_
    refine Runs.sN 3 (c' := (26, [.ref 75], [.int (I 18 1), .ref 46], (zS I J tg))) rfl ?_
    obtain ⟨c3, h⟩ := h
    refine Runs.to (c' := (27, [.ref 75], [.ref 55], (zS I J tg))) (by rw [c3]; rfl) ?_
    subst h
    exact Runs.rt rfl
-- X9_theGrammar g59
theorem sg_91g59 {L d : Nat} {xs : Nat → Int32} (I : Nat → Nat → Int32) (J : Nat → Nat → Int64) (tg : Option Nat) {r : Option Value × SS} (h : ((if (I 18 1) = (-1) then ((4 : Int32) = 3 ∧ r = (some (.ref 59), (zS I J tg))) else ((I 18 1) = 3 ∧ r = (some (.ref 59), (zS I J tg)))))) : Runs (GW L xs) d 91 (0, [.ref 75], [], (zS I J tg)) r := by
  refine Runs.sN 6 (c' := (12, [.ref 75], [.int (-1), .int (I 18 1), .ref 46], (zS I J tg))) rfl ?_
  by_cases c1 : (I 18 1) = (-1)
  · rw [if_pos c1] at h
    refine Runs.brT (P := (I 18 1) = (-1)) (a := 15) (b := 19) (L := [.ref 75]) (S := [.ref 46]) (z := (zS I J tg)) rfl c1 ?_
    refine Runs.sN 2 (c' := (26, [.ref 75], [.int 4, .ref 46], (zS I J tg))) rfl ?_
    obtain ⟨c2, h⟩ := h
    refine Runs.to (c' := (27, [.ref 75], [.ref 59], (zS I J tg))) (by rw [c2]; rfl) ?_
    subst h
    exact Runs.rt rfl
  · rw [if_neg c1] at h
    refine Runs.brF (P := (I 18 1) = (-1)) (a := 15) (b := 19) (L := [.ref 75]) (S := [.ref 46]) (z := (zS I J tg)) rfl c1 ?_
    refine Runs.sN 3 (c' := (26, [.ref 75], [.int (I 18 1), .ref 46], (zS I J tg))) rfl ?_
    obtain ⟨c3, h⟩ := h
    refine Runs.to (c' := (27, [.ref 75], [.ref 59], (zS I J tg))) (by rw [c3]; rfl) ?_
    subst h
    exact Runs.rt rfl
-- X9_theGrammar g63
theorem sg_91g63 {L d : Nat} {xs : Nat → Int32} (I : Nat → Nat → Int32) (J : Nat → Nat → Int64) (tg : Option Nat) {r : Option Value × SS} (h : ((if (I 18 1) = (-1) then ((4 : Int32) = 4 ∧ r = (some (.ref 63), (zS I J tg))) else ((I 18 1) = 4 ∧ r = (some (.ref 63), (zS I J tg)))))) : Runs (GW L xs) d 91 (0, [.ref 75], [], (zS I J tg)) r := by
  refine Runs.sN 6 (c' := (12, [.ref 75], [.int (-1), .int (I 18 1), .ref 46], (zS I J tg))) rfl ?_
  by_cases c1 : (I 18 1) = (-1)
  · rw [if_pos c1] at h
    refine Runs.brT (P := (I 18 1) = (-1)) (a := 15) (b := 19) (L := [.ref 75]) (S := [.ref 46]) (z := (zS I J tg)) rfl c1 ?_
    refine Runs.sN 2 (c' := (26, [.ref 75], [.int 4, .ref 46], (zS I J tg))) rfl ?_
    obtain ⟨c2, h⟩ := h
    refine Runs.to (c' := (27, [.ref 75], [.ref 63], (zS I J tg))) (by rw [c2]; rfl) ?_
    subst h
    exact Runs.rt rfl
  · rw [if_neg c1] at h
    refine Runs.brF (P := (I 18 1) = (-1)) (a := 15) (b := 19) (L := [.ref 75]) (S := [.ref 46]) (z := (zS I J tg)) rfl c1 ?_
    refine Runs.sN 3 (c' := (26, [.ref 75], [.int (I 18 1), .ref 46], (zS I J tg))) rfl ?_
    obtain ⟨c3, h⟩ := h
    refine Runs.to (c' := (27, [.ref 75], [.ref 63], (zS I J tg))) (by rw [c3]; rfl) ?_
    subst h
    exact Runs.rt rfl
-- X9_consult g47
theorem sg_98g47 {L d : Nat} {xs : Nat → Int32} (I : Nat → Nat → Int32) (J : Nat → Nat → Int64) (tg : Option Nat) {r : Option Value × SS} (h : (∃ (I4 : Nat → Nat → Int32), Runs (GW L xs) d 91 (0, [.ref 75], [], (zS I J tg)) ((some (.ref 47)), (zS I4 J tg)) ∧ ∃ (v5 : Int32) (I6 : Nat → Nat → Int32), Runs (GW L xs) d 26 (0, [.ref 47, .ref 78, vU], [], (zS I4 J tg)) ((some (.int v5)), (zS I6 J tg)) ∧ (v5 = 0 ∨ v5 = 1) ∧ r = (none, (zS (up2 I6 75 10 v5) J tg)))) : Runs (GW L xs) (d + 1) 98 (0, [.ref 75], [], (zS I J tg)) r := by
  refine Runs.sN 2 (c' := (2, [.ref 75], [.ref 75, .ref 75], (zS I J tg))) rfl ?_
  obtain ⟨I4, c7, h⟩ := h
  refine Runs.cl (cm := 91) (as := [.ref 75]) (rest := [.ref 75]) (r1 := ((some (.ref 47)), (zS I4 J tg))) rfl (Nat.le_of_ble_eq_true rfl) c7 ?_
  refine Runs.as (c' := (5, [.ref 75], [.ref 47, .ref 75], (zS I4 J tg))) rfl ?_
  refine Runs.sN 2 (c' := (9, [.ref 75], [.ref 78, .ref 47, .ref 75], (zS I4 J tg))) rfl ?_
  obtain ⟨v5, I6, c8, h⟩ := h
  refine Runs.cl (cm := 26) (as := [.ref 47, .ref 78]) (rest := [.ref 75]) (r1 := ((some (.int v5)), (zS I6 J tg))) rfl (Nat.le_of_ble_eq_true rfl) c8 ?_
  refine Runs.as (c' := (12, [.ref 75], [.int v5, .ref 75], (zS I6 J tg))) rfl ?_
  obtain ⟨c9, h⟩ := h
  refine Runs.to (c' := (15, [.ref 75], [], (zS (up2 I6 75 10 v5) J tg))) (Runs.zpt rfl (show (75 : Nat) < 114 by decide) rfl rfl c9) ?_
  subst h
  exact Runs.rt rfl
-- X9_isOfGrammar g47
theorem sg_99g47 {L d : Nat} {xs : Nat → Int32} (I : Nat → Nat → Int32) (J : Nat → Nat → Int64) (tg : Option Nat) {r : Option Value × SS} (h : (∃ (I4 : Nat → Nat → Int32), Runs (GW L xs) d 91 (0, [.ref 75], [], (zS I J tg)) ((some (.ref 47)), (zS I4 J tg)) ∧ ∃ (v5 : Int32) (I6 : Nat → Nat → Int32), Runs (GW L xs) d 27 (0, [.ref 47, .ref 78, vU], [], (zS I4 J tg)) ((some (.int v5)), (zS I6 J tg)) ∧ (v5 = 0 ∨ v5 = 1) ∧ r = (some (.int v5), (zS I6 J tg)))) : Runs (GW L xs) (d + 1) 99 (0, [.ref 75], [], (zS I J tg)) r := by
  refine Runs.sN 1 (c' := (1, [.ref 75], [.ref 75], (zS I J tg))) rfl ?_
  obtain ⟨I4, c7, h⟩ := h
  refine Runs.cl (cm := 91) (as := [.ref 75]) (rest := []) (r1 := ((some (.ref 47)), (zS I4 J tg))) rfl (Nat.le_of_ble_eq_true rfl) c7 ?_
  refine Runs.as (c' := (4, [.ref 75], [.ref 47], (zS I4 J tg))) rfl ?_
  refine Runs.sN 2 (c' := (8, [.ref 75], [.ref 78, .ref 47], (zS I4 J tg))) rfl ?_
  obtain ⟨v5, I6, c8, h⟩ := h
  refine Runs.cl (cm := 27) (as := [.ref 47, .ref 78]) (rest := []) (r1 := ((some (.int v5)), (zS I6 J tg))) rfl (Nat.le_of_ble_eq_true rfl) c8 ?_
  refine Runs.as (c' := (11, [.ref 75], [.int v5], (zS I6 J tg))) rfl ?_
  obtain ⟨h0, h⟩ := h
  subst h
  exact Runs.zrt rfl rfl h0
-- X9_harmBy g47
theorem sg_104g47 {L d : Nat} {xs : Nat → Int32} (I : Nat → Nat → Int32) (J : Nat → Nat → Int64) (tg : Option Nat) (a1 : Int32) (a2 : Int32) {r : Option Value × SS} (h : (∃ (v13 : Int32) (I14 : Nat → Nat → Int32), Runs (GW L xs) d 103 (0, [.ref 75, .int a1, .int a2], [], (zS I J tg)) ((some (.int v13)), (zS I14 J tg)) ∧ (if v13 = 0 then (¬ ((I14 75 8) < 0 ∨ 12 ≤ (I14 75 8).toNatClampNeg) ∧ (if (I14 75 10) = (I14 6 ((I14 75 8).toNatClampNeg)) then (∃ (I15 : Nat → Nat → Int32), Runs (GW L xs) d 91 (0, [.ref 75], [], (zS (up2 (up2 (up2 (up2 I14 78 8 a2) 78 9 0) 78 10 a1) 78 11 (I14 75 9)) J tg)) ((some (.ref 47)), (zS I15 J tg)) ∧ ∃ (v16 : Int32) (I17 : Nat → Nat → Int32), Runs (GW L xs) d 28 (0, [.ref 47], [], (zS I15 J tg)) ((some (.int v16)), (zS I17 J tg)) ∧ (if v16 = 0 then (r = (some (.int 1), (zS I17 J tg))) else (∃ (v18 : Int32) (I19 : Nat → Nat → Int32), Runs (GW L xs) d 29 (0, [.ref 47, .int (I17 47 6), .ref 78, vU, vU, vU, vU, vU], [], (zS I17 J tg)) ((some (.int v18)), (zS I19 J tg)) ∧ r = (some (.int (if 0 < v18 then v18 else 0)), (zS I19 J tg))))) else (∃ (I20 : Nat → Nat → Int32), Runs (GW L xs) d 91 (0, [.ref 75], [], (zS (up2 (up2 (up2 (up2 I14 78 8 a2) 78 9 1) 78 10 a1) 78 11 (I14 75 9)) J tg)) ((some (.ref 47)), (zS I20 J tg)) ∧ ∃ (v21 : Int32) (I22 : Nat → Nat → Int32), Runs (GW L xs) d 28 (0, [.ref 47], [], (zS I20 J tg)) ((some (.int v21)), (zS I22 J tg)) ∧ (if v21 = 0 then (r = (some (.int 1), (zS I22 J tg))) else (∃ (v23 : Int32) (I24 : Nat → Nat → Int32), Runs (GW L xs) d 29 (0, [.ref 47, .int (I22 47 6), .ref 78, vU, vU, vU, vU, vU], [], (zS I22 J tg)) ((some (.int v23)), (zS I24 J tg)) ∧ r = (some (.int (if 0 < v23 then v23 else 0)), (zS I24 J tg))))))) else (r = (some (.int 0), (zS I14 J tg)))))) : Runs (GW L xs) (d + 1) 104 (0, [.ref 75, .int a1, .int a2, vU], [], (zS I J tg)) r := by
  refine Runs.sN 3 (c' := (3, [.ref 75, .int a1, .int a2, vU], [.int a2, .int a1, .ref 75], (zS I J tg))) rfl ?_
  obtain ⟨v13, I14, c25, h⟩ := h
  refine Runs.cl (cm := 103) (as := [.ref 75, .int a1, .int a2]) (rest := []) (r1 := ((some (.int v13)), (zS I14 J tg))) rfl (Nat.le_of_ble_eq_true rfl) c25 ?_
  refine Runs.as (c' := (6, [.ref 75, .int a1, .int a2, vU], [.int v13], (zS I14 J tg))) rfl ?_
  by_cases c26 : v13 = 0
  · rw [if_pos c26] at h
    refine Runs.brT (P := v13 = 0) (a := 11) (b := 9) (L := [.ref 75, .int a1, .int a2, vU]) (S := []) (z := (zS I14 J tg)) rfl c26 ?_
    refine Runs.sN 15 (c' := (40, [.ref 75, .int a1, .int a2, vU], [.int (I14 75 8), .ref 6, .int (I14 75 10), .int 9, .ref 78], (zS (up2 I14 78 8 a2) J tg))) rfl ?_
    obtain ⟨c27, h⟩ := h
    refine Runs.to (c' := (41, [.ref 75, .int a1, .int a2, vU], [.int (I14 6 ((I14 75 8).toNatClampNeg)), .int (I14 75 10), .int 9, .ref 78], (zS (up2 I14 78 8 a2) J tg))) (Runs.zld rfl (show (6 : Nat) < 114 by decide) rfl c27) ?_
    by_cases c28 : (I14 75 10) = (I14 6 ((I14 75 8).toNatClampNeg))
    · rw [if_pos c28] at h
      refine Runs.brT (P := (I14 75 10) = (I14 6 ((I14 75 8).toNatClampNeg))) (a := 44) (b := 48) (L := [.ref 75, .int a1, .int a2, vU]) (S := [.int 9, .ref 78]) (z := (zS (up2 I14 78 8 a2) J tg)) rfl c28 ?_
      refine Runs.sN 15 (c' := (70, [.ref 75, .int a1, .int a2, vU], [.ref 75], (zS (up2 (up2 (up2 (up2 I14 78 8 a2) 78 9 0) 78 10 a1) 78 11 (I14 75 9)) J tg))) rfl ?_
      obtain ⟨I15, c29, h⟩ := h
      refine Runs.cl (cm := 91) (as := [.ref 75]) (rest := []) (r1 := ((some (.ref 47)), (zS I15 J tg))) rfl (Nat.le_of_ble_eq_true rfl) c29 ?_
      refine Runs.as (c' := (73, [.ref 75, .int a1, .int a2, vU], [.ref 47], (zS I15 J tg))) rfl ?_
      refine Runs.sN 2 (c' := (75, [.ref 75, .int a1, .int a2, .ref 47], [.ref 47], (zS I15 J tg))) rfl ?_
      obtain ⟨v16, I17, c30, h⟩ := h
      refine Runs.cl (cm := 28) (as := [.ref 47]) (rest := []) (r1 := ((some (.int v16)), (zS I17 J tg))) rfl (Nat.le_of_ble_eq_true rfl) c30 ?_
      refine Runs.as (c' := (78, [.ref 75, .int a1, .int a2, .ref 47], [.int v16], (zS I17 J tg))) rfl ?_
      by_cases c31 : v16 = 0
      · rw [if_pos c31] at h
        refine Runs.brT (P := v16 = 0) (a := 100) (b := 81) (L := [.ref 75, .int a1, .int a2, .ref 47]) (S := []) (z := (zS I17 J tg)) rfl c31 ?_
        refine Runs.sN 1 (c' := (101, [.ref 75, .int a1, .int a2, .ref 47], [.int 1], (zS I17 J tg))) rfl ?_
        subst h
        exact Runs.rt rfl
      · rw [if_neg c31] at h
        refine Runs.brF (P := v16 = 0) (a := 100) (b := 81) (L := [.ref 75, .int a1, .int a2, .ref 47]) (S := []) (z := (zS I17 J tg)) rfl c31 ?_
        refine Runs.sN 6 (c' := (91, [.ref 75, .int a1, .int a2, .ref 47], [.ref 78, .int (I17 47 6), .ref 47, .int 0], (zS I17 J tg))) rfl ?_
        obtain ⟨v18, I19, c32, h⟩ := h
        refine Runs.cl (cm := 29) (as := [.ref 47, .int (I17 47 6), .ref 78]) (rest := [.int 0]) (r1 := ((some (.int v18)), (zS I19 J tg))) rfl (Nat.le_of_ble_eq_true rfl) c32 ?_
        refine Runs.as (c' := (94, [.ref 75, .int a1, .int a2, .ref 47], [.int v18, .int 0], (zS I19 J tg))) rfl ?_
        refine Runs.sN 2 (c' := (101, [.ref 75, .int a1, .int a2, .ref 47], [.int (if 0 < v18 then v18 else 0)], (zS I19 J tg))) rfl ?_
        subst h
        exact Runs.rt rfl
    · rw [if_neg c28] at h
      refine Runs.brF (P := (I14 75 10) = (I14 6 ((I14 75 8).toNatClampNeg))) (a := 44) (b := 48) (L := [.ref 75, .int a1, .int a2, vU]) (S := [.int 9, .ref 78]) (z := (zS (up2 I14 78 8 a2) J tg)) rfl c28 ?_
      refine Runs.sN 14 (c' := (70, [.ref 75, .int a1, .int a2, vU], [.ref 75], (zS (up2 (up2 (up2 (up2 I14 78 8 a2) 78 9 1) 78 10 a1) 78 11 (I14 75 9)) J tg))) rfl ?_
      obtain ⟨I20, c33, h⟩ := h
      refine Runs.cl (cm := 91) (as := [.ref 75]) (rest := []) (r1 := ((some (.ref 47)), (zS I20 J tg))) rfl (Nat.le_of_ble_eq_true rfl) c33 ?_
      refine Runs.as (c' := (73, [.ref 75, .int a1, .int a2, vU], [.ref 47], (zS I20 J tg))) rfl ?_
      refine Runs.sN 2 (c' := (75, [.ref 75, .int a1, .int a2, .ref 47], [.ref 47], (zS I20 J tg))) rfl ?_
      obtain ⟨v21, I22, c34, h⟩ := h
      refine Runs.cl (cm := 28) (as := [.ref 47]) (rest := []) (r1 := ((some (.int v21)), (zS I22 J tg))) rfl (Nat.le_of_ble_eq_true rfl) c34 ?_
      refine Runs.as (c' := (78, [.ref 75, .int a1, .int a2, .ref 47], [.int v21], (zS I22 J tg))) rfl ?_
      by_cases c35 : v21 = 0
      · rw [if_pos c35] at h
        refine Runs.brT (P := v21 = 0) (a := 100) (b := 81) (L := [.ref 75, .int a1, .int a2, .ref 47]) (S := []) (z := (zS I22 J tg)) rfl c35 ?_
        refine Runs.sN 1 (c' := (101, [.ref 75, .int a1, .int a2, .ref 47], [.int 1], (zS I22 J tg))) rfl ?_
        subst h
        exact Runs.rt rfl
      · rw [if_neg c35] at h
        refine Runs.brF (P := v21 = 0) (a := 100) (b := 81) (L := [.ref 75, .int a1, .int a2, .ref 47]) (S := []) (z := (zS I22 J tg)) rfl c35 ?_
        refine Runs.sN 6 (c' := (91, [.ref 75, .int a1, .int a2, .ref 47], [.ref 78, .int (I22 47 6), .ref 47, .int 0], (zS I22 J tg))) rfl ?_
        obtain ⟨v23, I24, c36, h⟩ := h
        refine Runs.cl (cm := 29) (as := [.ref 47, .int (I22 47 6), .ref 78]) (rest := [.int 0]) (r1 := ((some (.int v23)), (zS I24 J tg))) rfl (Nat.le_of_ble_eq_true rfl) c36 ?_
        refine Runs.as (c' := (94, [.ref 75, .int a1, .int a2, .ref 47], [.int v23, .int 0], (zS I24 J tg))) rfl ?_
        refine Runs.sN 2 (c' := (101, [.ref 75, .int a1, .int a2, .ref 47], [.int (if 0 < v23 then v23 else 0)], (zS I24 J tg))) rfl ?_
        subst h
        exact Runs.rt rfl
  · rw [if_neg c26] at h
    refine Runs.brF (P := v13 = 0) (a := 11) (b := 9) (L := [.ref 75, .int a1, .int a2, vU]) (S := []) (z := (zS I14 J tg)) rfl c26 ?_
    refine Runs.sN 1 (c' := (10, [.ref 75, .int a1, .int a2, vU], [.int 0], (zS I14 J tg))) rfl ?_
    subst h
    exact Runs.rt rfl
-- X9_consult g51
theorem sg_98g51 {L d : Nat} {xs : Nat → Int32} (I : Nat → Nat → Int32) (J : Nat → Nat → Int64) (tg : Option Nat) {r : Option Value × SS} (h : (∃ (I4 : Nat → Nat → Int32), Runs (GW L xs) d 91 (0, [.ref 75], [], (zS I J tg)) ((some (.ref 51)), (zS I4 J tg)) ∧ ∃ (v5 : Int32) (I6 : Nat → Nat → Int32), Runs (GW L xs) d 26 (0, [.ref 51, .ref 78, vU], [], (zS I4 J tg)) ((some (.int v5)), (zS I6 J tg)) ∧ (v5 = 0 ∨ v5 = 1) ∧ r = (none, (zS (up2 I6 75 10 v5) J tg)))) : Runs (GW L xs) (d + 1) 98 (0, [.ref 75], [], (zS I J tg)) r := by
  refine Runs.sN 2 (c' := (2, [.ref 75], [.ref 75, .ref 75], (zS I J tg))) rfl ?_
  obtain ⟨I4, c7, h⟩ := h
  refine Runs.cl (cm := 91) (as := [.ref 75]) (rest := [.ref 75]) (r1 := ((some (.ref 51)), (zS I4 J tg))) rfl (Nat.le_of_ble_eq_true rfl) c7 ?_
  refine Runs.as (c' := (5, [.ref 75], [.ref 51, .ref 75], (zS I4 J tg))) rfl ?_
  refine Runs.sN 2 (c' := (9, [.ref 75], [.ref 78, .ref 51, .ref 75], (zS I4 J tg))) rfl ?_
  obtain ⟨v5, I6, c8, h⟩ := h
  refine Runs.cl (cm := 26) (as := [.ref 51, .ref 78]) (rest := [.ref 75]) (r1 := ((some (.int v5)), (zS I6 J tg))) rfl (Nat.le_of_ble_eq_true rfl) c8 ?_
  refine Runs.as (c' := (12, [.ref 75], [.int v5, .ref 75], (zS I6 J tg))) rfl ?_
  obtain ⟨c9, h⟩ := h
  refine Runs.to (c' := (15, [.ref 75], [], (zS (up2 I6 75 10 v5) J tg))) (Runs.zpt rfl (show (75 : Nat) < 114 by decide) rfl rfl c9) ?_
  subst h
  exact Runs.rt rfl
-- X9_isOfGrammar g51
theorem sg_99g51 {L d : Nat} {xs : Nat → Int32} (I : Nat → Nat → Int32) (J : Nat → Nat → Int64) (tg : Option Nat) {r : Option Value × SS} (h : (∃ (I4 : Nat → Nat → Int32), Runs (GW L xs) d 91 (0, [.ref 75], [], (zS I J tg)) ((some (.ref 51)), (zS I4 J tg)) ∧ ∃ (v5 : Int32) (I6 : Nat → Nat → Int32), Runs (GW L xs) d 27 (0, [.ref 51, .ref 78, vU], [], (zS I4 J tg)) ((some (.int v5)), (zS I6 J tg)) ∧ (v5 = 0 ∨ v5 = 1) ∧ r = (some (.int v5), (zS I6 J tg)))) : Runs (GW L xs) (d + 1) 99 (0, [.ref 75], [], (zS I J tg)) r := by
  refine Runs.sN 1 (c' := (1, [.ref 75], [.ref 75], (zS I J tg))) rfl ?_
  obtain ⟨I4, c7, h⟩ := h
  refine Runs.cl (cm := 91) (as := [.ref 75]) (rest := []) (r1 := ((some (.ref 51)), (zS I4 J tg))) rfl (Nat.le_of_ble_eq_true rfl) c7 ?_
  refine Runs.as (c' := (4, [.ref 75], [.ref 51], (zS I4 J tg))) rfl ?_
  refine Runs.sN 2 (c' := (8, [.ref 75], [.ref 78, .ref 51], (zS I4 J tg))) rfl ?_
  obtain ⟨v5, I6, c8, h⟩ := h
  refine Runs.cl (cm := 27) (as := [.ref 51, .ref 78]) (rest := []) (r1 := ((some (.int v5)), (zS I6 J tg))) rfl (Nat.le_of_ble_eq_true rfl) c8 ?_
  refine Runs.as (c' := (11, [.ref 75], [.int v5], (zS I6 J tg))) rfl ?_
  obtain ⟨h0, h⟩ := h
  subst h
  exact Runs.zrt rfl rfl h0
-- X9_harmBy g51
theorem sg_104g51 {L d : Nat} {xs : Nat → Int32} (I : Nat → Nat → Int32) (J : Nat → Nat → Int64) (tg : Option Nat) (a1 : Int32) (a2 : Int32) {r : Option Value × SS} (h : (∃ (v13 : Int32) (I14 : Nat → Nat → Int32), Runs (GW L xs) d 103 (0, [.ref 75, .int a1, .int a2], [], (zS I J tg)) ((some (.int v13)), (zS I14 J tg)) ∧ (if v13 = 0 then (¬ ((I14 75 8) < 0 ∨ 12 ≤ (I14 75 8).toNatClampNeg) ∧ (if (I14 75 10) = (I14 6 ((I14 75 8).toNatClampNeg)) then (∃ (I15 : Nat → Nat → Int32), Runs (GW L xs) d 91 (0, [.ref 75], [], (zS (up2 (up2 (up2 (up2 I14 78 8 a2) 78 9 0) 78 10 a1) 78 11 (I14 75 9)) J tg)) ((some (.ref 51)), (zS I15 J tg)) ∧ ∃ (v16 : Int32) (I17 : Nat → Nat → Int32), Runs (GW L xs) d 28 (0, [.ref 51], [], (zS I15 J tg)) ((some (.int v16)), (zS I17 J tg)) ∧ (if v16 = 0 then (r = (some (.int 1), (zS I17 J tg))) else (∃ (v18 : Int32) (I19 : Nat → Nat → Int32), Runs (GW L xs) d 29 (0, [.ref 51, .int (I17 51 6), .ref 78, vU, vU, vU, vU, vU], [], (zS I17 J tg)) ((some (.int v18)), (zS I19 J tg)) ∧ r = (some (.int (if 0 < v18 then v18 else 0)), (zS I19 J tg))))) else (∃ (I20 : Nat → Nat → Int32), Runs (GW L xs) d 91 (0, [.ref 75], [], (zS (up2 (up2 (up2 (up2 I14 78 8 a2) 78 9 1) 78 10 a1) 78 11 (I14 75 9)) J tg)) ((some (.ref 51)), (zS I20 J tg)) ∧ ∃ (v21 : Int32) (I22 : Nat → Nat → Int32), Runs (GW L xs) d 28 (0, [.ref 51], [], (zS I20 J tg)) ((some (.int v21)), (zS I22 J tg)) ∧ (if v21 = 0 then (r = (some (.int 1), (zS I22 J tg))) else (∃ (v23 : Int32) (I24 : Nat → Nat → Int32), Runs (GW L xs) d 29 (0, [.ref 51, .int (I22 51 6), .ref 78, vU, vU, vU, vU, vU], [], (zS I22 J tg)) ((some (.int v23)), (zS I24 J tg)) ∧ r = (some (.int (if 0 < v23 then v23 else 0)), (zS I24 J tg))))))) else (r = (some (.int 0), (zS I14 J tg)))))) : Runs (GW L xs) (d + 1) 104 (0, [.ref 75, .int a1, .int a2, vU], [], (zS I J tg)) r := by
  refine Runs.sN 3 (c' := (3, [.ref 75, .int a1, .int a2, vU], [.int a2, .int a1, .ref 75], (zS I J tg))) rfl ?_
  obtain ⟨v13, I14, c25, h⟩ := h
  refine Runs.cl (cm := 103) (as := [.ref 75, .int a1, .int a2]) (rest := []) (r1 := ((some (.int v13)), (zS I14 J tg))) rfl (Nat.le_of_ble_eq_true rfl) c25 ?_
  refine Runs.as (c' := (6, [.ref 75, .int a1, .int a2, vU], [.int v13], (zS I14 J tg))) rfl ?_
  by_cases c26 : v13 = 0
  · rw [if_pos c26] at h
    refine Runs.brT (P := v13 = 0) (a := 11) (b := 9) (L := [.ref 75, .int a1, .int a2, vU]) (S := []) (z := (zS I14 J tg)) rfl c26 ?_
    refine Runs.sN 15 (c' := (40, [.ref 75, .int a1, .int a2, vU], [.int (I14 75 8), .ref 6, .int (I14 75 10), .int 9, .ref 78], (zS (up2 I14 78 8 a2) J tg))) rfl ?_
    obtain ⟨c27, h⟩ := h
    refine Runs.to (c' := (41, [.ref 75, .int a1, .int a2, vU], [.int (I14 6 ((I14 75 8).toNatClampNeg)), .int (I14 75 10), .int 9, .ref 78], (zS (up2 I14 78 8 a2) J tg))) (Runs.zld rfl (show (6 : Nat) < 114 by decide) rfl c27) ?_
    by_cases c28 : (I14 75 10) = (I14 6 ((I14 75 8).toNatClampNeg))
    · rw [if_pos c28] at h
      refine Runs.brT (P := (I14 75 10) = (I14 6 ((I14 75 8).toNatClampNeg))) (a := 44) (b := 48) (L := [.ref 75, .int a1, .int a2, vU]) (S := [.int 9, .ref 78]) (z := (zS (up2 I14 78 8 a2) J tg)) rfl c28 ?_
      refine Runs.sN 15 (c' := (70, [.ref 75, .int a1, .int a2, vU], [.ref 75], (zS (up2 (up2 (up2 (up2 I14 78 8 a2) 78 9 0) 78 10 a1) 78 11 (I14 75 9)) J tg))) rfl ?_
      obtain ⟨I15, c29, h⟩ := h
      refine Runs.cl (cm := 91) (as := [.ref 75]) (rest := []) (r1 := ((some (.ref 51)), (zS I15 J tg))) rfl (Nat.le_of_ble_eq_true rfl) c29 ?_
      refine Runs.as (c' := (73, [.ref 75, .int a1, .int a2, vU], [.ref 51], (zS I15 J tg))) rfl ?_
      refine Runs.sN 2 (c' := (75, [.ref 75, .int a1, .int a2, .ref 51], [.ref 51], (zS I15 J tg))) rfl ?_
      obtain ⟨v16, I17, c30, h⟩ := h
      refine Runs.cl (cm := 28) (as := [.ref 51]) (rest := []) (r1 := ((some (.int v16)), (zS I17 J tg))) rfl (Nat.le_of_ble_eq_true rfl) c30 ?_
      refine Runs.as (c' := (78, [.ref 75, .int a1, .int a2, .ref 51], [.int v16], (zS I17 J tg))) rfl ?_
      by_cases c31 : v16 = 0
      · rw [if_pos c31] at h
        refine Runs.brT (P := v16 = 0) (a := 100) (b := 81) (L := [.ref 75, .int a1, .int a2, .ref 51]) (S := []) (z := (zS I17 J tg)) rfl c31 ?_
        refine Runs.sN 1 (c' := (101, [.ref 75, .int a1, .int a2, .ref 51], [.int 1], (zS I17 J tg))) rfl ?_
        subst h
        exact Runs.rt rfl
      · rw [if_neg c31] at h
        refine Runs.brF (P := v16 = 0) (a := 100) (b := 81) (L := [.ref 75, .int a1, .int a2, .ref 51]) (S := []) (z := (zS I17 J tg)) rfl c31 ?_
        refine Runs.sN 6 (c' := (91, [.ref 75, .int a1, .int a2, .ref 51], [.ref 78, .int (I17 51 6), .ref 51, .int 0], (zS I17 J tg))) rfl ?_
        obtain ⟨v18, I19, c32, h⟩ := h
        refine Runs.cl (cm := 29) (as := [.ref 51, .int (I17 51 6), .ref 78]) (rest := [.int 0]) (r1 := ((some (.int v18)), (zS I19 J tg))) rfl (Nat.le_of_ble_eq_true rfl) c32 ?_
        refine Runs.as (c' := (94, [.ref 75, .int a1, .int a2, .ref 51], [.int v18, .int 0], (zS I19 J tg))) rfl ?_
        refine Runs.sN 2 (c' := (101, [.ref 75, .int a1, .int a2, .ref 51], [.int (if 0 < v18 then v18 else 0)], (zS I19 J tg))) rfl ?_
        subst h
        exact Runs.rt rfl
    · rw [if_neg c28] at h
      refine Runs.brF (P := (I14 75 10) = (I14 6 ((I14 75 8).toNatClampNeg))) (a := 44) (b := 48) (L := [.ref 75, .int a1, .int a2, vU]) (S := [.int 9, .ref 78]) (z := (zS (up2 I14 78 8 a2) J tg)) rfl c28 ?_
      refine Runs.sN 14 (c' := (70, [.ref 75, .int a1, .int a2, vU], [.ref 75], (zS (up2 (up2 (up2 (up2 I14 78 8 a2) 78 9 1) 78 10 a1) 78 11 (I14 75 9)) J tg))) rfl ?_
      obtain ⟨I20, c33, h⟩ := h
      refine Runs.cl (cm := 91) (as := [.ref 75]) (rest := []) (r1 := ((some (.ref 51)), (zS I20 J tg))) rfl (Nat.le_of_ble_eq_true rfl) c33 ?_
      refine Runs.as (c' := (73, [.ref 75, .int a1, .int a2, vU], [.ref 51], (zS I20 J tg))) rfl ?_
      refine Runs.sN 2 (c' := (75, [.ref 75, .int a1, .int a2, .ref 51], [.ref 51], (zS I20 J tg))) rfl ?_
      obtain ⟨v21, I22, c34, h⟩ := h
      refine Runs.cl (cm := 28) (as := [.ref 51]) (rest := []) (r1 := ((some (.int v21)), (zS I22 J tg))) rfl (Nat.le_of_ble_eq_true rfl) c34 ?_
      refine Runs.as (c' := (78, [.ref 75, .int a1, .int a2, .ref 51], [.int v21], (zS I22 J tg))) rfl ?_
      by_cases c35 : v21 = 0
      · rw [if_pos c35] at h
        refine Runs.brT (P := v21 = 0) (a := 100) (b := 81) (L := [.ref 75, .int a1, .int a2, .ref 51]) (S := []) (z := (zS I22 J tg)) rfl c35 ?_
        refine Runs.sN 1 (c' := (101, [.ref 75, .int a1, .int a2, .ref 51], [.int 1], (zS I22 J tg))) rfl ?_
        subst h
        exact Runs.rt rfl
      · rw [if_neg c35] at h
        refine Runs.brF (P := v21 = 0) (a := 100) (b := 81) (L := [.ref 75, .int a1, .int a2, .ref 51]) (S := []) (z := (zS I22 J tg)) rfl c35 ?_
        refine Runs.sN 6 (c' := (91, [.ref 75, .int a1, .int a2, .ref 51], [.ref 78, .int (I22 51 6), .ref 51, .int 0], (zS I22 J tg))) rfl ?_
        obtain ⟨v23, I24, c36, h⟩ := h
        refine Runs.cl (cm := 29) (as := [.ref 51, .int (I22 51 6), .ref 78]) (rest := [.int 0]) (r1 := ((some (.int v23)), (zS I24 J tg))) rfl (Nat.le_of_ble_eq_true rfl) c36 ?_
        refine Runs.as (c' := (94, [.ref 75, .int a1, .int a2, .ref 51], [.int v23, .int 0], (zS I24 J tg))) rfl ?_
        refine Runs.sN 2 (c' := (101, [.ref 75, .int a1, .int a2, .ref 51], [.int (if 0 < v23 then v23 else 0)], (zS I24 J tg))) rfl ?_
        subst h
        exact Runs.rt rfl
  · rw [if_neg c26] at h
    refine Runs.brF (P := v13 = 0) (a := 11) (b := 9) (L := [.ref 75, .int a1, .int a2, vU]) (S := []) (z := (zS I14 J tg)) rfl c26 ?_
    refine Runs.sN 1 (c' := (10, [.ref 75, .int a1, .int a2, vU], [.int 0], (zS I14 J tg))) rfl ?_
    subst h
    exact Runs.rt rfl
-- X9_consult g55
theorem sg_98g55 {L d : Nat} {xs : Nat → Int32} (I : Nat → Nat → Int32) (J : Nat → Nat → Int64) (tg : Option Nat) {r : Option Value × SS} (h : (∃ (I4 : Nat → Nat → Int32), Runs (GW L xs) d 91 (0, [.ref 75], [], (zS I J tg)) ((some (.ref 55)), (zS I4 J tg)) ∧ ∃ (v5 : Int32) (I6 : Nat → Nat → Int32), Runs (GW L xs) d 26 (0, [.ref 55, .ref 78, vU], [], (zS I4 J tg)) ((some (.int v5)), (zS I6 J tg)) ∧ (v5 = 0 ∨ v5 = 1) ∧ r = (none, (zS (up2 I6 75 10 v5) J tg)))) : Runs (GW L xs) (d + 1) 98 (0, [.ref 75], [], (zS I J tg)) r := by
  refine Runs.sN 2 (c' := (2, [.ref 75], [.ref 75, .ref 75], (zS I J tg))) rfl ?_
  obtain ⟨I4, c7, h⟩ := h
  refine Runs.cl (cm := 91) (as := [.ref 75]) (rest := [.ref 75]) (r1 := ((some (.ref 55)), (zS I4 J tg))) rfl (Nat.le_of_ble_eq_true rfl) c7 ?_
  refine Runs.as (c' := (5, [.ref 75], [.ref 55, .ref 75], (zS I4 J tg))) rfl ?_
  refine Runs.sN 2 (c' := (9, [.ref 75], [.ref 78, .ref 55, .ref 75], (zS I4 J tg))) rfl ?_
  obtain ⟨v5, I6, c8, h⟩ := h
  refine Runs.cl (cm := 26) (as := [.ref 55, .ref 78]) (rest := [.ref 75]) (r1 := ((some (.int v5)), (zS I6 J tg))) rfl (Nat.le_of_ble_eq_true rfl) c8 ?_
  refine Runs.as (c' := (12, [.ref 75], [.int v5, .ref 75], (zS I6 J tg))) rfl ?_
  obtain ⟨c9, h⟩ := h
  refine Runs.to (c' := (15, [.ref 75], [], (zS (up2 I6 75 10 v5) J tg))) (Runs.zpt rfl (show (75 : Nat) < 114 by decide) rfl rfl c9) ?_
  subst h
  exact Runs.rt rfl
-- X9_isOfGrammar g55
theorem sg_99g55 {L d : Nat} {xs : Nat → Int32} (I : Nat → Nat → Int32) (J : Nat → Nat → Int64) (tg : Option Nat) {r : Option Value × SS} (h : (∃ (I4 : Nat → Nat → Int32), Runs (GW L xs) d 91 (0, [.ref 75], [], (zS I J tg)) ((some (.ref 55)), (zS I4 J tg)) ∧ ∃ (v5 : Int32) (I6 : Nat → Nat → Int32), Runs (GW L xs) d 27 (0, [.ref 55, .ref 78, vU], [], (zS I4 J tg)) ((some (.int v5)), (zS I6 J tg)) ∧ (v5 = 0 ∨ v5 = 1) ∧ r = (some (.int v5), (zS I6 J tg)))) : Runs (GW L xs) (d + 1) 99 (0, [.ref 75], [], (zS I J tg)) r := by
  refine Runs.sN 1 (c' := (1, [.ref 75], [.ref 75], (zS I J tg))) rfl ?_
  obtain ⟨I4, c7, h⟩ := h
  refine Runs.cl (cm := 91) (as := [.ref 75]) (rest := []) (r1 := ((some (.ref 55)), (zS I4 J tg))) rfl (Nat.le_of_ble_eq_true rfl) c7 ?_
  refine Runs.as (c' := (4, [.ref 75], [.ref 55], (zS I4 J tg))) rfl ?_
  refine Runs.sN 2 (c' := (8, [.ref 75], [.ref 78, .ref 55], (zS I4 J tg))) rfl ?_
  obtain ⟨v5, I6, c8, h⟩ := h
  refine Runs.cl (cm := 27) (as := [.ref 55, .ref 78]) (rest := []) (r1 := ((some (.int v5)), (zS I6 J tg))) rfl (Nat.le_of_ble_eq_true rfl) c8 ?_
  refine Runs.as (c' := (11, [.ref 75], [.int v5], (zS I6 J tg))) rfl ?_
  obtain ⟨h0, h⟩ := h
  subst h
  exact Runs.zrt rfl rfl h0
-- X9_harmBy g55
theorem sg_104g55 {L d : Nat} {xs : Nat → Int32} (I : Nat → Nat → Int32) (J : Nat → Nat → Int64) (tg : Option Nat) (a1 : Int32) (a2 : Int32) {r : Option Value × SS} (h : (∃ (v13 : Int32) (I14 : Nat → Nat → Int32), Runs (GW L xs) d 103 (0, [.ref 75, .int a1, .int a2], [], (zS I J tg)) ((some (.int v13)), (zS I14 J tg)) ∧ (if v13 = 0 then (¬ ((I14 75 8) < 0 ∨ 12 ≤ (I14 75 8).toNatClampNeg) ∧ (if (I14 75 10) = (I14 6 ((I14 75 8).toNatClampNeg)) then (∃ (I15 : Nat → Nat → Int32), Runs (GW L xs) d 91 (0, [.ref 75], [], (zS (up2 (up2 (up2 (up2 I14 78 8 a2) 78 9 0) 78 10 a1) 78 11 (I14 75 9)) J tg)) ((some (.ref 55)), (zS I15 J tg)) ∧ ∃ (v16 : Int32) (I17 : Nat → Nat → Int32), Runs (GW L xs) d 28 (0, [.ref 55], [], (zS I15 J tg)) ((some (.int v16)), (zS I17 J tg)) ∧ (if v16 = 0 then (r = (some (.int 1), (zS I17 J tg))) else (∃ (v18 : Int32) (I19 : Nat → Nat → Int32), Runs (GW L xs) d 29 (0, [.ref 55, .int (I17 55 6), .ref 78, vU, vU, vU, vU, vU], [], (zS I17 J tg)) ((some (.int v18)), (zS I19 J tg)) ∧ r = (some (.int (if 0 < v18 then v18 else 0)), (zS I19 J tg))))) else (∃ (I20 : Nat → Nat → Int32), Runs (GW L xs) d 91 (0, [.ref 75], [], (zS (up2 (up2 (up2 (up2 I14 78 8 a2) 78 9 1) 78 10 a1) 78 11 (I14 75 9)) J tg)) ((some (.ref 55)), (zS I20 J tg)) ∧ ∃ (v21 : Int32) (I22 : Nat → Nat → Int32), Runs (GW L xs) d 28 (0, [.ref 55], [], (zS I20 J tg)) ((some (.int v21)), (zS I22 J tg)) ∧ (if v21 = 0 then (r = (some (.int 1), (zS I22 J tg))) else (∃ (v23 : Int32) (I24 : Nat → Nat → Int32), Runs (GW L xs) d 29 (0, [.ref 55, .int (I22 55 6), .ref 78, vU, vU, vU, vU, vU], [], (zS I22 J tg)) ((some (.int v23)), (zS I24 J tg)) ∧ r = (some (.int (if 0 < v23 then v23 else 0)), (zS I24 J tg))))))) else (r = (some (.int 0), (zS I14 J tg)))))) : Runs (GW L xs) (d + 1) 104 (0, [.ref 75, .int a1, .int a2, vU], [], (zS I J tg)) r := by
  refine Runs.sN 3 (c' := (3, [.ref 75, .int a1, .int a2, vU], [.int a2, .int a1, .ref 75], (zS I J tg))) rfl ?_
  obtain ⟨v13, I14, c25, h⟩ := h
  refine Runs.cl (cm := 103) (as := [.ref 75, .int a1, .int a2]) (rest := []) (r1 := ((some (.int v13)), (zS I14 J tg))) rfl (Nat.le_of_ble_eq_true rfl) c25 ?_
  refine Runs.as (c' := (6, [.ref 75, .int a1, .int a2, vU], [.int v13], (zS I14 J tg))) rfl ?_
  by_cases c26 : v13 = 0
  · rw [if_pos c26] at h
    refine Runs.brT (P := v13 = 0) (a := 11) (b := 9) (L := [.ref 75, .int a1, .int a2, vU]) (S := []) (z := (zS I14 J tg)) rfl c26 ?_
    refine Runs.sN 15 (c' := (40, [.ref 75, .int a1, .int a2, vU], [.int (I14 75 8), .ref 6, .int (I14 75 10), .int 9, .ref 78], (zS (up2 I14 78 8 a2) J tg))) rfl ?_
    obtain ⟨c27, h⟩ := h
    refine Runs.to (c' := (41, [.ref 75, .int a1, .int a2, vU], [.int (I14 6 ((I14 75 8).toNatClampNeg)), .int (I14 75 10), .int 9, .ref 78], (zS (up2 I14 78 8 a2) J tg))) (Runs.zld rfl (show (6 : Nat) < 114 by decide) rfl c27) ?_
    by_cases c28 : (I14 75 10) = (I14 6 ((I14 75 8).toNatClampNeg))
    · rw [if_pos c28] at h
      refine Runs.brT (P := (I14 75 10) = (I14 6 ((I14 75 8).toNatClampNeg))) (a := 44) (b := 48) (L := [.ref 75, .int a1, .int a2, vU]) (S := [.int 9, .ref 78]) (z := (zS (up2 I14 78 8 a2) J tg)) rfl c28 ?_
      refine Runs.sN 15 (c' := (70, [.ref 75, .int a1, .int a2, vU], [.ref 75], (zS (up2 (up2 (up2 (up2 I14 78 8 a2) 78 9 0) 78 10 a1) 78 11 (I14 75 9)) J tg))) rfl ?_
      obtain ⟨I15, c29, h⟩ := h
      refine Runs.cl (cm := 91) (as := [.ref 75]) (rest := []) (r1 := ((some (.ref 55)), (zS I15 J tg))) rfl (Nat.le_of_ble_eq_true rfl) c29 ?_
      refine Runs.as (c' := (73, [.ref 75, .int a1, .int a2, vU], [.ref 55], (zS I15 J tg))) rfl ?_
      refine Runs.sN 2 (c' := (75, [.ref 75, .int a1, .int a2, .ref 55], [.ref 55], (zS I15 J tg))) rfl ?_
      obtain ⟨v16, I17, c30, h⟩ := h
      refine Runs.cl (cm := 28) (as := [.ref 55]) (rest := []) (r1 := ((some (.int v16)), (zS I17 J tg))) rfl (Nat.le_of_ble_eq_true rfl) c30 ?_
      refine Runs.as (c' := (78, [.ref 75, .int a1, .int a2, .ref 55], [.int v16], (zS I17 J tg))) rfl ?_
      by_cases c31 : v16 = 0
      · rw [if_pos c31] at h
        refine Runs.brT (P := v16 = 0) (a := 100) (b := 81) (L := [.ref 75, .int a1, .int a2, .ref 55]) (S := []) (z := (zS I17 J tg)) rfl c31 ?_
        refine Runs.sN 1 (c' := (101, [.ref 75, .int a1, .int a2, .ref 55], [.int 1], (zS I17 J tg))) rfl ?_
        subst h
        exact Runs.rt rfl
      · rw [if_neg c31] at h
        refine Runs.brF (P := v16 = 0) (a := 100) (b := 81) (L := [.ref 75, .int a1, .int a2, .ref 55]) (S := []) (z := (zS I17 J tg)) rfl c31 ?_
        refine Runs.sN 6 (c' := (91, [.ref 75, .int a1, .int a2, .ref 55], [.ref 78, .int (I17 55 6), .ref 55, .int 0], (zS I17 J tg))) rfl ?_
        obtain ⟨v18, I19, c32, h⟩ := h
        refine Runs.cl (cm := 29) (as := [.ref 55, .int (I17 55 6), .ref 78]) (rest := [.int 0]) (r1 := ((some (.int v18)), (zS I19 J tg))) rfl (Nat.le_of_ble_eq_true rfl) c32 ?_
        refine Runs.as (c' := (94, [.ref 75, .int a1, .int a2, .ref 55], [.int v18, .int 0], (zS I19 J tg))) rfl ?_
        refine Runs.sN 2 (c' := (101, [.ref 75, .int a1, .int a2, .ref 55], [.int (if 0 < v18 then v18 else 0)], (zS I19 J tg))) rfl ?_
        subst h
        exact Runs.rt rfl
    · rw [if_neg c28] at h
      refine Runs.brF (P := (I14 75 10) = (I14 6 ((I14 75 8).toNatClampNeg))) (a := 44) (b := 48) (L := [.ref 75, .int a1, .int a2, vU]) (S := [.int 9, .ref 78]) (z := (zS (up2 I14 78 8 a2) J tg)) rfl c28 ?_
      refine Runs.sN 14 (c' := (70, [.ref 75, .int a1, .int a2, vU], [.ref 75], (zS (up2 (up2 (up2 (up2 I14 78 8 a2) 78 9 1) 78 10 a1) 78 11 (I14 75 9)) J tg))) rfl ?_
      obtain ⟨I20, c33, h⟩ := h
      refine Runs.cl (cm := 91) (as := [.ref 75]) (rest := []) (r1 := ((some (.ref 55)), (zS I20 J tg))) rfl (Nat.le_of_ble_eq_true rfl) c33 ?_
      refine Runs.as (c' := (73, [.ref 75, .int a1, .int a2, vU], [.ref 55], (zS I20 J tg))) rfl ?_
      refine Runs.sN 2 (c' := (75, [.ref 75, .int a1, .int a2, .ref 55], [.ref 55], (zS I20 J tg))) rfl ?_
      obtain ⟨v21, I22, c34, h⟩ := h
      refine Runs.cl (cm := 28) (as := [.ref 55]) (rest := []) (r1 := ((some (.int v21)), (zS I22 J tg))) rfl (Nat.le_of_ble_eq_true rfl) c34 ?_
      refine Runs.as (c' := (78, [.ref 75, .int a1, .int a2, .ref 55], [.int v21], (zS I22 J tg))) rfl ?_
      by_cases c35 : v21 = 0
      · rw [if_pos c35] at h
        refine Runs.brT (P := v21 = 0) (a := 100) (b := 81) (L := [.ref 75, .int a1, .int a2, .ref 55]) (S := []) (z := (zS I22 J tg)) rfl c35 ?_
        refine Runs.sN 1 (c' := (101, [.ref 75, .int a1, .int a2, .ref 55], [.int 1], (zS I22 J tg))) rfl ?_
        subst h
        exact Runs.rt rfl
      · rw [if_neg c35] at h
        refine Runs.brF (P := v21 = 0) (a := 100) (b := 81) (L := [.ref 75, .int a1, .int a2, .ref 55]) (S := []) (z := (zS I22 J tg)) rfl c35 ?_
        refine Runs.sN 6 (c' := (91, [.ref 75, .int a1, .int a2, .ref 55], [.ref 78, .int (I22 55 6), .ref 55, .int 0], (zS I22 J tg))) rfl ?_
        obtain ⟨v23, I24, c36, h⟩ := h
        refine Runs.cl (cm := 29) (as := [.ref 55, .int (I22 55 6), .ref 78]) (rest := [.int 0]) (r1 := ((some (.int v23)), (zS I24 J tg))) rfl (Nat.le_of_ble_eq_true rfl) c36 ?_
        refine Runs.as (c' := (94, [.ref 75, .int a1, .int a2, .ref 55], [.int v23, .int 0], (zS I24 J tg))) rfl ?_
        refine Runs.sN 2 (c' := (101, [.ref 75, .int a1, .int a2, .ref 55], [.int (if 0 < v23 then v23 else 0)], (zS I24 J tg))) rfl ?_
        subst h
        exact Runs.rt rfl
  · rw [if_neg c26] at h
    refine Runs.brF (P := v13 = 0) (a := 11) (b := 9) (L := [.ref 75, .int a1, .int a2, vU]) (S := []) (z := (zS I14 J tg)) rfl c26 ?_
    refine Runs.sN 1 (c' := (10, [.ref 75, .int a1, .int a2, vU], [.int 0], (zS I14 J tg))) rfl ?_
    subst h
    exact Runs.rt rfl
-- X9_consult g59
theorem sg_98g59 {L d : Nat} {xs : Nat → Int32} (I : Nat → Nat → Int32) (J : Nat → Nat → Int64) (tg : Option Nat) {r : Option Value × SS} (h : (∃ (I4 : Nat → Nat → Int32), Runs (GW L xs) d 91 (0, [.ref 75], [], (zS I J tg)) ((some (.ref 59)), (zS I4 J tg)) ∧ ∃ (v5 : Int32) (I6 : Nat → Nat → Int32), Runs (GW L xs) d 26 (0, [.ref 59, .ref 78, vU], [], (zS I4 J tg)) ((some (.int v5)), (zS I6 J tg)) ∧ (v5 = 0 ∨ v5 = 1) ∧ r = (none, (zS (up2 I6 75 10 v5) J tg)))) : Runs (GW L xs) (d + 1) 98 (0, [.ref 75], [], (zS I J tg)) r := by
  refine Runs.sN 2 (c' := (2, [.ref 75], [.ref 75, .ref 75], (zS I J tg))) rfl ?_
  obtain ⟨I4, c7, h⟩ := h
  refine Runs.cl (cm := 91) (as := [.ref 75]) (rest := [.ref 75]) (r1 := ((some (.ref 59)), (zS I4 J tg))) rfl (Nat.le_of_ble_eq_true rfl) c7 ?_
  refine Runs.as (c' := (5, [.ref 75], [.ref 59, .ref 75], (zS I4 J tg))) rfl ?_
  refine Runs.sN 2 (c' := (9, [.ref 75], [.ref 78, .ref 59, .ref 75], (zS I4 J tg))) rfl ?_
  obtain ⟨v5, I6, c8, h⟩ := h
  refine Runs.cl (cm := 26) (as := [.ref 59, .ref 78]) (rest := [.ref 75]) (r1 := ((some (.int v5)), (zS I6 J tg))) rfl (Nat.le_of_ble_eq_true rfl) c8 ?_
  refine Runs.as (c' := (12, [.ref 75], [.int v5, .ref 75], (zS I6 J tg))) rfl ?_
  obtain ⟨c9, h⟩ := h
  refine Runs.to (c' := (15, [.ref 75], [], (zS (up2 I6 75 10 v5) J tg))) (Runs.zpt rfl (show (75 : Nat) < 114 by decide) rfl rfl c9) ?_
  subst h
  exact Runs.rt rfl
-- X9_isOfGrammar g59
theorem sg_99g59 {L d : Nat} {xs : Nat → Int32} (I : Nat → Nat → Int32) (J : Nat → Nat → Int64) (tg : Option Nat) {r : Option Value × SS} (h : (∃ (I4 : Nat → Nat → Int32), Runs (GW L xs) d 91 (0, [.ref 75], [], (zS I J tg)) ((some (.ref 59)), (zS I4 J tg)) ∧ ∃ (v5 : Int32) (I6 : Nat → Nat → Int32), Runs (GW L xs) d 27 (0, [.ref 59, .ref 78, vU], [], (zS I4 J tg)) ((some (.int v5)), (zS I6 J tg)) ∧ (v5 = 0 ∨ v5 = 1) ∧ r = (some (.int v5), (zS I6 J tg)))) : Runs (GW L xs) (d + 1) 99 (0, [.ref 75], [], (zS I J tg)) r := by
  refine Runs.sN 1 (c' := (1, [.ref 75], [.ref 75], (zS I J tg))) rfl ?_
  obtain ⟨I4, c7, h⟩ := h
  refine Runs.cl (cm := 91) (as := [.ref 75]) (rest := []) (r1 := ((some (.ref 59)), (zS I4 J tg))) rfl (Nat.le_of_ble_eq_true rfl) c7 ?_
  refine Runs.as (c' := (4, [.ref 75], [.ref 59], (zS I4 J tg))) rfl ?_
  refine Runs.sN 2 (c' := (8, [.ref 75], [.ref 78, .ref 59], (zS I4 J tg))) rfl ?_
  obtain ⟨v5, I6, c8, h⟩ := h
  refine Runs.cl (cm := 27) (as := [.ref 59, .ref 78]) (rest := []) (r1 := ((some (.int v5)), (zS I6 J tg))) rfl (Nat.le_of_ble_eq_true rfl) c8 ?_
  refine Runs.as (c' := (11, [.ref 75], [.int v5], (zS I6 J tg))) rfl ?_
  obtain ⟨h0, h⟩ := h
  subst h
  exact Runs.zrt rfl rfl h0
-- X9_harmBy g59
theorem sg_104g59 {L d : Nat} {xs : Nat → Int32} (I : Nat → Nat → Int32) (J : Nat → Nat → Int64) (tg : Option Nat) (a1 : Int32) (a2 : Int32) {r : Option Value × SS} (h : (∃ (v13 : Int32) (I14 : Nat → Nat → Int32), Runs (GW L xs) d 103 (0, [.ref 75, .int a1, .int a2], [], (zS I J tg)) ((some (.int v13)), (zS I14 J tg)) ∧ (if v13 = 0 then (¬ ((I14 75 8) < 0 ∨ 12 ≤ (I14 75 8).toNatClampNeg) ∧ (if (I14 75 10) = (I14 6 ((I14 75 8).toNatClampNeg)) then (∃ (I15 : Nat → Nat → Int32), Runs (GW L xs) d 91 (0, [.ref 75], [], (zS (up2 (up2 (up2 (up2 I14 78 8 a2) 78 9 0) 78 10 a1) 78 11 (I14 75 9)) J tg)) ((some (.ref 59)), (zS I15 J tg)) ∧ ∃ (v16 : Int32) (I17 : Nat → Nat → Int32), Runs (GW L xs) d 28 (0, [.ref 59], [], (zS I15 J tg)) ((some (.int v16)), (zS I17 J tg)) ∧ (if v16 = 0 then (r = (some (.int 1), (zS I17 J tg))) else (∃ (v18 : Int32) (I19 : Nat → Nat → Int32), Runs (GW L xs) d 29 (0, [.ref 59, .int (I17 59 6), .ref 78, vU, vU, vU, vU, vU], [], (zS I17 J tg)) ((some (.int v18)), (zS I19 J tg)) ∧ r = (some (.int (if 0 < v18 then v18 else 0)), (zS I19 J tg))))) else (∃ (I20 : Nat → Nat → Int32), Runs (GW L xs) d 91 (0, [.ref 75], [], (zS (up2 (up2 (up2 (up2 I14 78 8 a2) 78 9 1) 78 10 a1) 78 11 (I14 75 9)) J tg)) ((some (.ref 59)), (zS I20 J tg)) ∧ ∃ (v21 : Int32) (I22 : Nat → Nat → Int32), Runs (GW L xs) d 28 (0, [.ref 59], [], (zS I20 J tg)) ((some (.int v21)), (zS I22 J tg)) ∧ (if v21 = 0 then (r = (some (.int 1), (zS I22 J tg))) else (∃ (v23 : Int32) (I24 : Nat → Nat → Int32), Runs (GW L xs) d 29 (0, [.ref 59, .int (I22 59 6), .ref 78, vU, vU, vU, vU, vU], [], (zS I22 J tg)) ((some (.int v23)), (zS I24 J tg)) ∧ r = (some (.int (if 0 < v23 then v23 else 0)), (zS I24 J tg))))))) else (r = (some (.int 0), (zS I14 J tg)))))) : Runs (GW L xs) (d + 1) 104 (0, [.ref 75, .int a1, .int a2, vU], [], (zS I J tg)) r := by
  refine Runs.sN 3 (c' := (3, [.ref 75, .int a1, .int a2, vU], [.int a2, .int a1, .ref 75], (zS I J tg))) rfl ?_
  obtain ⟨v13, I14, c25, h⟩ := h
  refine Runs.cl (cm := 103) (as := [.ref 75, .int a1, .int a2]) (rest := []) (r1 := ((some (.int v13)), (zS I14 J tg))) rfl (Nat.le_of_ble_eq_true rfl) c25 ?_
  refine Runs.as (c' := (6, [.ref 75, .int a1, .int a2, vU], [.int v13], (zS I14 J tg))) rfl ?_
  by_cases c26 : v13 = 0
  · rw [if_pos c26] at h
    refine Runs.brT (P := v13 = 0) (a := 11) (b := 9) (L := [.ref 75, .int a1, .int a2, vU]) (S := []) (z := (zS I14 J tg)) rfl c26 ?_
    refine Runs.sN 15 (c' := (40, [.ref 75, .int a1, .int a2, vU], [.int (I14 75 8), .ref 6, .int (I14 75 10), .int 9, .ref 78], (zS (up2 I14 78 8 a2) J tg))) rfl ?_
    obtain ⟨c27, h⟩ := h
    refine Runs.to (c' := (41, [.ref 75, .int a1, .int a2, vU], [.int (I14 6 ((I14 75 8).toNatClampNeg)), .int (I14 75 10), .int 9, .ref 78], (zS (up2 I14 78 8 a2) J tg))) (Runs.zld rfl (show (6 : Nat) < 114 by decide) rfl c27) ?_
    by_cases c28 : (I14 75 10) = (I14 6 ((I14 75 8).toNatClampNeg))
    · rw [if_pos c28] at h
      refine Runs.brT (P := (I14 75 10) = (I14 6 ((I14 75 8).toNatClampNeg))) (a := 44) (b := 48) (L := [.ref 75, .int a1, .int a2, vU]) (S := [.int 9, .ref 78]) (z := (zS (up2 I14 78 8 a2) J tg)) rfl c28 ?_
      refine Runs.sN 15 (c' := (70, [.ref 75, .int a1, .int a2, vU], [.ref 75], (zS (up2 (up2 (up2 (up2 I14 78 8 a2) 78 9 0) 78 10 a1) 78 11 (I14 75 9)) J tg))) rfl ?_
      obtain ⟨I15, c29, h⟩ := h
      refine Runs.cl (cm := 91) (as := [.ref 75]) (rest := []) (r1 := ((some (.ref 59)), (zS I15 J tg))) rfl (Nat.le_of_ble_eq_true rfl) c29 ?_
      refine Runs.as (c' := (73, [.ref 75, .int a1, .int a2, vU], [.ref 59], (zS I15 J tg))) rfl ?_
      refine Runs.sN 2 (c' := (75, [.ref 75, .int a1, .int a2, .ref 59], [.ref 59], (zS I15 J tg))) rfl ?_
      obtain ⟨v16, I17, c30, h⟩ := h
      refine Runs.cl (cm := 28) (as := [.ref 59]) (rest := []) (r1 := ((some (.int v16)), (zS I17 J tg))) rfl (Nat.le_of_ble_eq_true rfl) c30 ?_
      refine Runs.as (c' := (78, [.ref 75, .int a1, .int a2, .ref 59], [.int v16], (zS I17 J tg))) rfl ?_
      by_cases c31 : v16 = 0
      · rw [if_pos c31] at h
        refine Runs.brT (P := v16 = 0) (a := 100) (b := 81) (L := [.ref 75, .int a1, .int a2, .ref 59]) (S := []) (z := (zS I17 J tg)) rfl c31 ?_
        refine Runs.sN 1 (c' := (101, [.ref 75, .int a1, .int a2, .ref 59], [.int 1], (zS I17 J tg))) rfl ?_
        subst h
        exact Runs.rt rfl
      · rw [if_neg c31] at h
        refine Runs.brF (P := v16 = 0) (a := 100) (b := 81) (L := [.ref 75, .int a1, .int a2, .ref 59]) (S := []) (z := (zS I17 J tg)) rfl c31 ?_
        refine Runs.sN 6 (c' := (91, [.ref 75, .int a1, .int a2, .ref 59], [.ref 78, .int (I17 59 6), .ref 59, .int 0], (zS I17 J tg))) rfl ?_
        obtain ⟨v18, I19, c32, h⟩ := h
        refine Runs.cl (cm := 29) (as := [.ref 59, .int (I17 59 6), .ref 78]) (rest := [.int 0]) (r1 := ((some (.int v18)), (zS I19 J tg))) rfl (Nat.le_of_ble_eq_true rfl) c32 ?_
        refine Runs.as (c' := (94, [.ref 75, .int a1, .int a2, .ref 59], [.int v18, .int 0], (zS I19 J tg))) rfl ?_
        refine Runs.sN 2 (c' := (101, [.ref 75, .int a1, .int a2, .ref 59], [.int (if 0 < v18 then v18 else 0)], (zS I19 J tg))) rfl ?_
        subst h
        exact Runs.rt rfl
    · rw [if_neg c28] at h
      refine Runs.brF (P := (I14 75 10) = (I14 6 ((I14 75 8).toNatClampNeg))) (a := 44) (b := 48) (L := [.ref 75, .int a1, .int a2, vU]) (S := [.int 9, .ref 78]) (z := (zS (up2 I14 78 8 a2) J tg)) rfl c28 ?_
      refine Runs.sN 14 (c' := (70, [.ref 75, .int a1, .int a2, vU], [.ref 75], (zS (up2 (up2 (up2 (up2 I14 78 8 a2) 78 9 1) 78 10 a1) 78 11 (I14 75 9)) J tg))) rfl ?_
      obtain ⟨I20, c33, h⟩ := h
      refine Runs.cl (cm := 91) (as := [.ref 75]) (rest := []) (r1 := ((some (.ref 59)), (zS I20 J tg))) rfl (Nat.le_of_ble_eq_true rfl) c33 ?_
      refine Runs.as (c' := (73, [.ref 75, .int a1, .int a2, vU], [.ref 59], (zS I20 J tg))) rfl ?_
      refine Runs.sN 2 (c' := (75, [.ref 75, .int a1, .int a2, .ref 59], [.ref 59], (zS I20 J tg))) rfl ?_
      obtain ⟨v21, I22, c34, h⟩ := h
      refine Runs.cl (cm := 28) (as := [.ref 59]) (rest := []) (r1 := ((some (.int v21)), (zS I22 J tg))) rfl (Nat.le_of_ble_eq_true rfl) c34 ?_
      refine Runs.as (c' := (78, [.ref 75, .int a1, .int a2, .ref 59], [.int v21], (zS I22 J tg))) rfl ?_
      by_cases c35 : v21 = 0
      · rw [if_pos c35] at h
        refine Runs.brT (P := v21 = 0) (a := 100) (b := 81) (L := [.ref 75, .int a1, .int a2, .ref 59]) (S := []) (z := (zS I22 J tg)) rfl c35 ?_
        refine Runs.sN 1 (c' := (101, [.ref 75, .int a1, .int a2, .ref 59], [.int 1], (zS I22 J tg))) rfl ?_
        subst h
        exact Runs.rt rfl
      · rw [if_neg c35] at h
        refine Runs.brF (P := v21 = 0) (a := 100) (b := 81) (L := [.ref 75, .int a1, .int a2, .ref 59]) (S := []) (z := (zS I22 J tg)) rfl c35 ?_
        refine Runs.sN 6 (c' := (91, [.ref 75, .int a1, .int a2, .ref 59], [.ref 78, .int (I22 59 6), .ref 59, .int 0], (zS I22 J tg))) rfl ?_
        obtain ⟨v23, I24, c36, h⟩ := h
        refine Runs.cl (cm := 29) (as := [.ref 59, .int (I22 59 6), .ref 78]) (rest := [.int 0]) (r1 := ((some (.int v23)), (zS I24 J tg))) rfl (Nat.le_of_ble_eq_true rfl) c36 ?_
        refine Runs.as (c' := (94, [.ref 75, .int a1, .int a2, .ref 59], [.int v23, .int 0], (zS I24 J tg))) rfl ?_
        refine Runs.sN 2 (c' := (101, [.ref 75, .int a1, .int a2, .ref 59], [.int (if 0 < v23 then v23 else 0)], (zS I24 J tg))) rfl ?_
        subst h
        exact Runs.rt rfl
  · rw [if_neg c26] at h
    refine Runs.brF (P := v13 = 0) (a := 11) (b := 9) (L := [.ref 75, .int a1, .int a2, vU]) (S := []) (z := (zS I14 J tg)) rfl c26 ?_
    refine Runs.sN 1 (c' := (10, [.ref 75, .int a1, .int a2, vU], [.int 0], (zS I14 J tg))) rfl ?_
    subst h
    exact Runs.rt rfl
-- X9_consult g63
theorem sg_98g63 {L d : Nat} {xs : Nat → Int32} (I : Nat → Nat → Int32) (J : Nat → Nat → Int64) (tg : Option Nat) {r : Option Value × SS} (h : (∃ (I4 : Nat → Nat → Int32), Runs (GW L xs) d 91 (0, [.ref 75], [], (zS I J tg)) ((some (.ref 63)), (zS I4 J tg)) ∧ ∃ (v5 : Int32) (I6 : Nat → Nat → Int32), Runs (GW L xs) d 26 (0, [.ref 63, .ref 78, vU], [], (zS I4 J tg)) ((some (.int v5)), (zS I6 J tg)) ∧ (v5 = 0 ∨ v5 = 1) ∧ r = (none, (zS (up2 I6 75 10 v5) J tg)))) : Runs (GW L xs) (d + 1) 98 (0, [.ref 75], [], (zS I J tg)) r := by
  refine Runs.sN 2 (c' := (2, [.ref 75], [.ref 75, .ref 75], (zS I J tg))) rfl ?_
  obtain ⟨I4, c7, h⟩ := h
  refine Runs.cl (cm := 91) (as := [.ref 75]) (rest := [.ref 75]) (r1 := ((some (.ref 63)), (zS I4 J tg))) rfl (Nat.le_of_ble_eq_true rfl) c7 ?_
  refine Runs.as (c' := (5, [.ref 75], [.ref 63, .ref 75], (zS I4 J tg))) rfl ?_
  refine Runs.sN 2 (c' := (9, [.ref 75], [.ref 78, .ref 63, .ref 75], (zS I4 J tg))) rfl ?_
  obtain ⟨v5, I6, c8, h⟩ := h
  refine Runs.cl (cm := 26) (as := [.ref 63, .ref 78]) (rest := [.ref 75]) (r1 := ((some (.int v5)), (zS I6 J tg))) rfl (Nat.le_of_ble_eq_true rfl) c8 ?_
  refine Runs.as (c' := (12, [.ref 75], [.int v5, .ref 75], (zS I6 J tg))) rfl ?_
  obtain ⟨c9, h⟩ := h
  refine Runs.to (c' := (15, [.ref 75], [], (zS (up2 I6 75 10 v5) J tg))) (Runs.zpt rfl (show (75 : Nat) < 114 by decide) rfl rfl c9) ?_
  subst h
  exact Runs.rt rfl
-- X9_isOfGrammar g63
theorem sg_99g63 {L d : Nat} {xs : Nat → Int32} (I : Nat → Nat → Int32) (J : Nat → Nat → Int64) (tg : Option Nat) {r : Option Value × SS} (h : (∃ (I4 : Nat → Nat → Int32), Runs (GW L xs) d 91 (0, [.ref 75], [], (zS I J tg)) ((some (.ref 63)), (zS I4 J tg)) ∧ ∃ (v5 : Int32) (I6 : Nat → Nat → Int32), Runs (GW L xs) d 27 (0, [.ref 63, .ref 78, vU], [], (zS I4 J tg)) ((some (.int v5)), (zS I6 J tg)) ∧ (v5 = 0 ∨ v5 = 1) ∧ r = (some (.int v5), (zS I6 J tg)))) : Runs (GW L xs) (d + 1) 99 (0, [.ref 75], [], (zS I J tg)) r := by
  refine Runs.sN 1 (c' := (1, [.ref 75], [.ref 75], (zS I J tg))) rfl ?_
  obtain ⟨I4, c7, h⟩ := h
  refine Runs.cl (cm := 91) (as := [.ref 75]) (rest := []) (r1 := ((some (.ref 63)), (zS I4 J tg))) rfl (Nat.le_of_ble_eq_true rfl) c7 ?_
  refine Runs.as (c' := (4, [.ref 75], [.ref 63], (zS I4 J tg))) rfl ?_
  refine Runs.sN 2 (c' := (8, [.ref 75], [.ref 78, .ref 63], (zS I4 J tg))) rfl ?_
  obtain ⟨v5, I6, c8, h⟩ := h
  refine Runs.cl (cm := 27) (as := [.ref 63, .ref 78]) (rest := []) (r1 := ((some (.int v5)), (zS I6 J tg))) rfl (Nat.le_of_ble_eq_true rfl) c8 ?_
  refine Runs.as (c' := (11, [.ref 75], [.int v5], (zS I6 J tg))) rfl ?_
  obtain ⟨h0, h⟩ := h
  subst h
  exact Runs.zrt rfl rfl h0
-- X9_harmBy g63
theorem sg_104g63 {L d : Nat} {xs : Nat → Int32} (I : Nat → Nat → Int32) (J : Nat → Nat → Int64) (tg : Option Nat) (a1 : Int32) (a2 : Int32) {r : Option Value × SS} (h : (∃ (v13 : Int32) (I14 : Nat → Nat → Int32), Runs (GW L xs) d 103 (0, [.ref 75, .int a1, .int a2], [], (zS I J tg)) ((some (.int v13)), (zS I14 J tg)) ∧ (if v13 = 0 then (¬ ((I14 75 8) < 0 ∨ 12 ≤ (I14 75 8).toNatClampNeg) ∧ (if (I14 75 10) = (I14 6 ((I14 75 8).toNatClampNeg)) then (∃ (I15 : Nat → Nat → Int32), Runs (GW L xs) d 91 (0, [.ref 75], [], (zS (up2 (up2 (up2 (up2 I14 78 8 a2) 78 9 0) 78 10 a1) 78 11 (I14 75 9)) J tg)) ((some (.ref 63)), (zS I15 J tg)) ∧ ∃ (v16 : Int32) (I17 : Nat → Nat → Int32), Runs (GW L xs) d 28 (0, [.ref 63], [], (zS I15 J tg)) ((some (.int v16)), (zS I17 J tg)) ∧ (if v16 = 0 then (r = (some (.int 1), (zS I17 J tg))) else (∃ (v18 : Int32) (I19 : Nat → Nat → Int32), Runs (GW L xs) d 29 (0, [.ref 63, .int (I17 63 6), .ref 78, vU, vU, vU, vU, vU], [], (zS I17 J tg)) ((some (.int v18)), (zS I19 J tg)) ∧ r = (some (.int (if 0 < v18 then v18 else 0)), (zS I19 J tg))))) else (∃ (I20 : Nat → Nat → Int32), Runs (GW L xs) d 91 (0, [.ref 75], [], (zS (up2 (up2 (up2 (up2 I14 78 8 a2) 78 9 1) 78 10 a1) 78 11 (I14 75 9)) J tg)) ((some (.ref 63)), (zS I20 J tg)) ∧ ∃ (v21 : Int32) (I22 : Nat → Nat → Int32), Runs (GW L xs) d 28 (0, [.ref 63], [], (zS I20 J tg)) ((some (.int v21)), (zS I22 J tg)) ∧ (if v21 = 0 then (r = (some (.int 1), (zS I22 J tg))) else (∃ (v23 : Int32) (I24 : Nat → Nat → Int32), Runs (GW L xs) d 29 (0, [.ref 63, .int (I22 63 6), .ref 78, vU, vU, vU, vU, vU], [], (zS I22 J tg)) ((some (.int v23)), (zS I24 J tg)) ∧ r = (some (.int (if 0 < v23 then v23 else 0)), (zS I24 J tg))))))) else (r = (some (.int 0), (zS I14 J tg)))))) : Runs (GW L xs) (d + 1) 104 (0, [.ref 75, .int a1, .int a2, vU], [], (zS I J tg)) r := by
  refine Runs.sN 3 (c' := (3, [.ref 75, .int a1, .int a2, vU], [.int a2, .int a1, .ref 75], (zS I J tg))) rfl ?_
  obtain ⟨v13, I14, c25, h⟩ := h
  refine Runs.cl (cm := 103) (as := [.ref 75, .int a1, .int a2]) (rest := []) (r1 := ((some (.int v13)), (zS I14 J tg))) rfl (Nat.le_of_ble_eq_true rfl) c25 ?_
  refine Runs.as (c' := (6, [.ref 75, .int a1, .int a2, vU], [.int v13], (zS I14 J tg))) rfl ?_
  by_cases c26 : v13 = 0
  · rw [if_pos c26] at h
    refine Runs.brT (P := v13 = 0) (a := 11) (b := 9) (L := [.ref 75, .int a1, .int a2, vU]) (S := []) (z := (zS I14 J tg)) rfl c26 ?_
    refine Runs.sN 15 (c' := (40, [.ref 75, .int a1, .int a2, vU], [.int (I14 75 8), .ref 6, .int (I14 75 10), .int 9, .ref 78], (zS (up2 I14 78 8 a2) J tg))) rfl ?_
    obtain ⟨c27, h⟩ := h
    refine Runs.to (c' := (41, [.ref 75, .int a1, .int a2, vU], [.int (I14 6 ((I14 75 8).toNatClampNeg)), .int (I14 75 10), .int 9, .ref 78], (zS (up2 I14 78 8 a2) J tg))) (Runs.zld rfl (show (6 : Nat) < 114 by decide) rfl c27) ?_
    by_cases c28 : (I14 75 10) = (I14 6 ((I14 75 8).toNatClampNeg))
    · rw [if_pos c28] at h
      refine Runs.brT (P := (I14 75 10) = (I14 6 ((I14 75 8).toNatClampNeg))) (a := 44) (b := 48) (L := [.ref 75, .int a1, .int a2, vU]) (S := [.int 9, .ref 78]) (z := (zS (up2 I14 78 8 a2) J tg)) rfl c28 ?_
      refine Runs.sN 15 (c' := (70, [.ref 75, .int a1, .int a2, vU], [.ref 75], (zS (up2 (up2 (up2 (up2 I14 78 8 a2) 78 9 0) 78 10 a1) 78 11 (I14 75 9)) J tg))) rfl ?_
      obtain ⟨I15, c29, h⟩ := h
      refine Runs.cl (cm := 91) (as := [.ref 75]) (rest := []) (r1 := ((some (.ref 63)), (zS I15 J tg))) rfl (Nat.le_of_ble_eq_true rfl) c29 ?_
      refine Runs.as (c' := (73, [.ref 75, .int a1, .int a2, vU], [.ref 63], (zS I15 J tg))) rfl ?_
      refine Runs.sN 2 (c' := (75, [.ref 75, .int a1, .int a2, .ref 63], [.ref 63], (zS I15 J tg))) rfl ?_
      obtain ⟨v16, I17, c30, h⟩ := h
      refine Runs.cl (cm := 28) (as := [.ref 63]) (rest := []) (r1 := ((some (.int v16)), (zS I17 J tg))) rfl (Nat.le_of_ble_eq_true rfl) c30 ?_
      refine Runs.as (c' := (78, [.ref 75, .int a1, .int a2, .ref 63], [.int v16], (zS I17 J tg))) rfl ?_
      by_cases c31 : v16 = 0
      · rw [if_pos c31] at h
        refine Runs.brT (P := v16 = 0) (a := 100) (b := 81) (L := [.ref 75, .int a1, .int a2, .ref 63]) (S := []) (z := (zS I17 J tg)) rfl c31 ?_
        refine Runs.sN 1 (c' := (101, [.ref 75, .int a1, .int a2, .ref 63], [.int 1], (zS I17 J tg))) rfl ?_
        subst h
        exact Runs.rt rfl
      · rw [if_neg c31] at h
        refine Runs.brF (P := v16 = 0) (a := 100) (b := 81) (L := [.ref 75, .int a1, .int a2, .ref 63]) (S := []) (z := (zS I17 J tg)) rfl c31 ?_
        refine Runs.sN 6 (c' := (91, [.ref 75, .int a1, .int a2, .ref 63], [.ref 78, .int (I17 63 6), .ref 63, .int 0], (zS I17 J tg))) rfl ?_
        obtain ⟨v18, I19, c32, h⟩ := h
        refine Runs.cl (cm := 29) (as := [.ref 63, .int (I17 63 6), .ref 78]) (rest := [.int 0]) (r1 := ((some (.int v18)), (zS I19 J tg))) rfl (Nat.le_of_ble_eq_true rfl) c32 ?_
        refine Runs.as (c' := (94, [.ref 75, .int a1, .int a2, .ref 63], [.int v18, .int 0], (zS I19 J tg))) rfl ?_
        refine Runs.sN 2 (c' := (101, [.ref 75, .int a1, .int a2, .ref 63], [.int (if 0 < v18 then v18 else 0)], (zS I19 J tg))) rfl ?_
        subst h
        exact Runs.rt rfl
    · rw [if_neg c28] at h
      refine Runs.brF (P := (I14 75 10) = (I14 6 ((I14 75 8).toNatClampNeg))) (a := 44) (b := 48) (L := [.ref 75, .int a1, .int a2, vU]) (S := [.int 9, .ref 78]) (z := (zS (up2 I14 78 8 a2) J tg)) rfl c28 ?_
      refine Runs.sN 14 (c' := (70, [.ref 75, .int a1, .int a2, vU], [.ref 75], (zS (up2 (up2 (up2 (up2 I14 78 8 a2) 78 9 1) 78 10 a1) 78 11 (I14 75 9)) J tg))) rfl ?_
      obtain ⟨I20, c33, h⟩ := h
      refine Runs.cl (cm := 91) (as := [.ref 75]) (rest := []) (r1 := ((some (.ref 63)), (zS I20 J tg))) rfl (Nat.le_of_ble_eq_true rfl) c33 ?_
      refine Runs.as (c' := (73, [.ref 75, .int a1, .int a2, vU], [.ref 63], (zS I20 J tg))) rfl ?_
      refine Runs.sN 2 (c' := (75, [.ref 75, .int a1, .int a2, .ref 63], [.ref 63], (zS I20 J tg))) rfl ?_
      obtain ⟨v21, I22, c34, h⟩ := h
      refine Runs.cl (cm := 28) (as := [.ref 63]) (rest := []) (r1 := ((some (.int v21)), (zS I22 J tg))) rfl (Nat.le_of_ble_eq_true rfl) c34 ?_
      refine Runs.as (c' := (78, [.ref 75, .int a1, .int a2, .ref 63], [.int v21], (zS I22 J tg))) rfl ?_
      by_cases c35 : v21 = 0
      · rw [if_pos c35] at h
        refine Runs.brT (P := v21 = 0) (a := 100) (b := 81) (L := [.ref 75, .int a1, .int a2, .ref 63]) (S := []) (z := (zS I22 J tg)) rfl c35 ?_
        refine Runs.sN 1 (c' := (101, [.ref 75, .int a1, .int a2, .ref 63], [.int 1], (zS I22 J tg))) rfl ?_
        subst h
        exact Runs.rt rfl
      · rw [if_neg c35] at h
        refine Runs.brF (P := v21 = 0) (a := 100) (b := 81) (L := [.ref 75, .int a1, .int a2, .ref 63]) (S := []) (z := (zS I22 J tg)) rfl c35 ?_
        refine Runs.sN 6 (c' := (91, [.ref 75, .int a1, .int a2, .ref 63], [.ref 78, .int (I22 63 6), .ref 63, .int 0], (zS I22 J tg))) rfl ?_
        obtain ⟨v23, I24, c36, h⟩ := h
        refine Runs.cl (cm := 29) (as := [.ref 63, .int (I22 63 6), .ref 78]) (rest := [.int 0]) (r1 := ((some (.int v23)), (zS I24 J tg))) rfl (Nat.le_of_ble_eq_true rfl) c36 ?_
        refine Runs.as (c' := (94, [.ref 75, .int a1, .int a2, .ref 63], [.int v23, .int 0], (zS I24 J tg))) rfl ?_
        refine Runs.sN 2 (c' := (101, [.ref 75, .int a1, .int a2, .ref 63], [.int (if 0 < v23 then v23 else 0)], (zS I24 J tg))) rfl ?_
        subst h
        exact Runs.rt rfl
  · rw [if_neg c26] at h
    refine Runs.brF (P := v13 = 0) (a := 11) (b := 9) (L := [.ref 75, .int a1, .int a2, vU]) (S := []) (z := (zS I14 J tg)) rfl c26 ?_
    refine Runs.sN 1 (c' := (10, [.ref 75, .int a1, .int a2, vU], [.int 0], (zS I14 J tg))) rfl ?_
    subst h
    exact Runs.rt rfl
-- X5_copyFrom i
theorem sg_49i {L d : Nat} {xs : Nat → Int32} (I : Nat → Nat → Int32) (J : Nat → Nat → Int64) (tg : Option Nat) {r : Option Value × SS} (h : (∃ (I5 : Nat → Nat → Int32), Runs (GW L xs) d 174 (0, [.ref 2, .ref 24], [], (zS (up2 (up2 (up2 (up2 (up2 (up2 I 23 0 (I 1 0)) 23 1 (I 1 1)) 23 2 (I 1 2)) 23 3 (I 1 3)) 23 4 (I 1 4)) 23 5 (I 1 5)) J tg)) (none, (zS I5 J tg)) ∧ ∃ (I6 : Nat → Nat → Int32), Runs (GW L xs) d 174 (0, [.ref 3, .ref 25], [], (zS I5 J tg)) (none, (zS I6 J tg)) ∧ ∃ (I7 : Nat → Nat → Int32), Runs (GW L xs) d 174 (0, [.ref 4, .ref 26], [], (zS I6 J tg)) (none, (zS I7 J tg)) ∧ ∃ (I8 : Nat → Nat → Int32), Runs (GW L xs) d 174 (0, [.ref 5, .ref 27], [], (zS I7 J tg)) (none, (zS I8 J tg)) ∧ (¬ (0 : Int32) < 0 ∧ ¬ (0 : Int32) < 0 ∧ ¬ (12 : Int32) < 0 ∧ (0 : Int32).toNatClampNeg + (12 : Int32).toNatClampNeg ≤ 12 ∧ (0 : Int32).toNatClampNeg + (12 : Int32).toNatClampNeg ≤ 12) ∧ r = (none, (zS (upR I8 28 (va_cpy (I8 6) (I8 28) (0 : Int32).toNatClampNeg (0 : Int32).toNatClampNeg (12 : Int32).toNatClampNeg)) J tg)))) : Runs (GW L xs) (d + 1) 49 (0, [.ref 23, .ref 1], [], (zS I J tg)) r := by
  refine Runs.sN 28 (c' := (56, [.ref 23, .ref 1], [.ref 24, .ref 2], (zS (up2 (up2 (up2 (up2 (up2 (up2 I 23 0 (I 1 0)) 23 1 (I 1 1)) 23 2 (I 1 2)) 23 3 (I 1 3)) 23 4 (I 1 4)) 23 5 (I 1 5)) J tg))) rfl ?_
  obtain ⟨I5, c9, h⟩ := h
  refine Runs.cl (cm := 174) (as := [.ref 2, .ref 24]) (rest := []) (r1 := (none, (zS I5 J tg))) rfl (Nat.le_of_ble_eq_true rfl) c9 ?_
  refine Runs.as (c' := (59, [.ref 23, .ref 1], [], (zS I5 J tg))) rfl ?_
  refine Runs.sN 4 (c' := (67, [.ref 23, .ref 1], [.ref 25, .ref 3], (zS I5 J tg))) rfl ?_
  obtain ⟨I6, c10, h⟩ := h
  refine Runs.cl (cm := 174) (as := [.ref 3, .ref 25]) (rest := []) (r1 := (none, (zS I6 J tg))) rfl (Nat.le_of_ble_eq_true rfl) c10 ?_
  refine Runs.as (c' := (70, [.ref 23, .ref 1], [], (zS I6 J tg))) rfl ?_
  refine Runs.sN 4 (c' := (78, [.ref 23, .ref 1], [.ref 26, .ref 4], (zS I6 J tg))) rfl ?_
  obtain ⟨I7, c11, h⟩ := h
  refine Runs.cl (cm := 174) (as := [.ref 4, .ref 26]) (rest := []) (r1 := (none, (zS I7 J tg))) rfl (Nat.le_of_ble_eq_true rfl) c11 ?_
  refine Runs.as (c' := (81, [.ref 23, .ref 1], [], (zS I7 J tg))) rfl ?_
  refine Runs.sN 4 (c' := (89, [.ref 23, .ref 1], [.ref 27, .ref 5], (zS I7 J tg))) rfl ?_
  obtain ⟨I8, c12, h⟩ := h
  refine Runs.cl (cm := 174) (as := [.ref 5, .ref 27]) (rest := []) (r1 := (none, (zS I8 J tg))) rfl (Nat.le_of_ble_eq_true rfl) c12 ?_
  refine Runs.as (c' := (92, [.ref 23, .ref 1], [], (zS I8 J tg))) rfl ?_
  refine Runs.sN 7 (c' := (104, [.ref 23, .ref 1], [.int 12, .int 0, .ref 28, .int 0, .ref 6], (zS I8 J tg))) rfl ?_
  obtain ⟨c13, h⟩ := h
  refine Runs.to (c' := (107, [.ref 23, .ref 1], [], (zS (upR I8 28 (va_cpy (I8 6) (I8 28) (0 : Int32).toNatClampNeg (0 : Int32).toNatClampNeg (12 : Int32).toNatClampNeg)) J tg))) (Runs.acp rfl rfl (Nat.le_of_ble_eq_true rfl) (by decide) (by decide) c13) ?_
  subst h
  exact Runs.rt rfl
-- X5_copyFrom b
theorem sg_49b {L d : Nat} {xs : Nat → Int32} (I : Nat → Nat → Int32) (J : Nat → Nat → Int64) (tg : Option Nat) {r : Option Value × SS} (h : (∃ (I5 : Nat → Nat → Int32), Runs (GW L xs) d 174 (0, [.ref 24, .ref 2], [], (zS (up2 (up2 (up2 (up2 (up2 (up2 I 1 0 (I 23 0)) 1 1 (I 23 1)) 1 2 (I 23 2)) 1 3 (I 23 3)) 1 4 (I 23 4)) 1 5 (I 23 5)) J tg)) (none, (zS I5 J tg)) ∧ ∃ (I6 : Nat → Nat → Int32), Runs (GW L xs) d 174 (0, [.ref 25, .ref 3], [], (zS I5 J tg)) (none, (zS I6 J tg)) ∧ ∃ (I7 : Nat → Nat → Int32), Runs (GW L xs) d 174 (0, [.ref 26, .ref 4], [], (zS I6 J tg)) (none, (zS I7 J tg)) ∧ ∃ (I8 : Nat → Nat → Int32), Runs (GW L xs) d 174 (0, [.ref 27, .ref 5], [], (zS I7 J tg)) (none, (zS I8 J tg)) ∧ (¬ (0 : Int32) < 0 ∧ ¬ (0 : Int32) < 0 ∧ ¬ (12 : Int32) < 0 ∧ (0 : Int32).toNatClampNeg + (12 : Int32).toNatClampNeg ≤ 12 ∧ (0 : Int32).toNatClampNeg + (12 : Int32).toNatClampNeg ≤ 12) ∧ r = (none, (zS (upR I8 6 (va_cpy (I8 28) (I8 6) (0 : Int32).toNatClampNeg (0 : Int32).toNatClampNeg (12 : Int32).toNatClampNeg)) J tg)))) : Runs (GW L xs) (d + 1) 49 (0, [.ref 1, .ref 23], [], (zS I J tg)) r := by
  refine Runs.sN 28 (c' := (56, [.ref 1, .ref 23], [.ref 2, .ref 24], (zS (up2 (up2 (up2 (up2 (up2 (up2 I 1 0 (I 23 0)) 1 1 (I 23 1)) 1 2 (I 23 2)) 1 3 (I 23 3)) 1 4 (I 23 4)) 1 5 (I 23 5)) J tg))) rfl ?_
  obtain ⟨I5, c9, h⟩ := h
  refine Runs.cl (cm := 174) (as := [.ref 24, .ref 2]) (rest := []) (r1 := (none, (zS I5 J tg))) rfl (Nat.le_of_ble_eq_true rfl) c9 ?_
  refine Runs.as (c' := (59, [.ref 1, .ref 23], [], (zS I5 J tg))) rfl ?_
  refine Runs.sN 4 (c' := (67, [.ref 1, .ref 23], [.ref 3, .ref 25], (zS I5 J tg))) rfl ?_
  obtain ⟨I6, c10, h⟩ := h
  refine Runs.cl (cm := 174) (as := [.ref 25, .ref 3]) (rest := []) (r1 := (none, (zS I6 J tg))) rfl (Nat.le_of_ble_eq_true rfl) c10 ?_
  refine Runs.as (c' := (70, [.ref 1, .ref 23], [], (zS I6 J tg))) rfl ?_
  refine Runs.sN 4 (c' := (78, [.ref 1, .ref 23], [.ref 4, .ref 26], (zS I6 J tg))) rfl ?_
  obtain ⟨I7, c11, h⟩ := h
  refine Runs.cl (cm := 174) (as := [.ref 26, .ref 4]) (rest := []) (r1 := (none, (zS I7 J tg))) rfl (Nat.le_of_ble_eq_true rfl) c11 ?_
  refine Runs.as (c' := (81, [.ref 1, .ref 23], [], (zS I7 J tg))) rfl ?_
  refine Runs.sN 4 (c' := (89, [.ref 1, .ref 23], [.ref 5, .ref 27], (zS I7 J tg))) rfl ?_
  obtain ⟨I8, c12, h⟩ := h
  refine Runs.cl (cm := 174) (as := [.ref 27, .ref 5]) (rest := []) (r1 := (none, (zS I8 J tg))) rfl (Nat.le_of_ble_eq_true rfl) c12 ?_
  refine Runs.as (c' := (92, [.ref 1, .ref 23], [], (zS I8 J tg))) rfl ?_
  refine Runs.sN 7 (c' := (104, [.ref 1, .ref 23], [.int 12, .int 0, .ref 6, .int 0, .ref 28], (zS I8 J tg))) rfl ?_
  obtain ⟨c13, h⟩ := h
  refine Runs.to (c' := (107, [.ref 1, .ref 23], [], (zS (upR I8 6 (va_cpy (I8 28) (I8 6) (0 : Int32).toNatClampNeg (0 : Int32).toNatClampNeg (12 : Int32).toNatClampNeg)) J tg))) (Runs.acp rfl rfl (Nat.le_of_ble_eq_true rfl) (by decide) (by decide) c13) ?_
  subst h
  exact Runs.rt rfl
-- X3_prepare 
theorem sg_32 {L d : Nat} {xs : Nat → Int32} (I : Nat → Nat → Int32) (J : Nat → Nat → Int64) (tg : Option Nat) (a1 : Int32) {r : Option Value × SS} (h : (∃ (I7 : Nat → Nat → Int32), Runs (GW L xs) d 301 (0, [.ref 89, .int (-2), vU, vU], [], (zS I J tg)) (none, (zS I7 J tg)) ∧ Runs (GW L xs) (d + 1) 32 (11, [.ref 86, .int a1, .int 0], [], (zS I7 J tg)) r)) : Runs (GW L xs) (d + 1) 32 (0, [.ref 86, .int a1, vU], [], (zS I J tg)) r := by
  refine Runs.sN 3 (c' := (6, [.ref 86, .int a1, vU], [.int (-2), .ref 89], (zS I J tg))) rfl ?_
  obtain ⟨I7, c8, h⟩ := h
  refine Runs.cl (cm := 301) (as := [.ref 89, .int (-2)]) (rest := []) (r1 := (none, (zS I7 J tg))) rfl (Nat.le_of_ble_eq_true rfl) c8 ?_
  refine Runs.as (c' := (9, [.ref 86, .int a1, vU], [], (zS I7 J tg))) rfl ?_
  refine Runs.sN 2 (c' := (11, [.ref 86, .int a1, .int 0], [], (zS I7 J tg))) rfl ?_
  exact h
theorem sg_32_11 {L d : Nat} {xs : Nat → Int32} (I : Nat → Nat → Int32) (J : Nat → Nat → Int64) (tg : Option Nat) (x1 : Int32) (x2 : Int32) {r : Option Value × SS} (h : ((if (I 18 3) ≤ x2 then (r = (none, (zS I J tg))) else (¬ (x2 < 0 ∨ 8 ≤ (x2).toNatClampNeg) ∧ ∃ (I1 : Nat → Nat → Int32), Runs (GW L xs) d 92 (0, [.ref 75, .int (I 22 ((x2).toNatClampNeg)), .int x1, vU], [], (zS I J tg)) (none, (zS I1 J tg)) ∧ ¬ (x2 < 0 ∨ 8 ≤ (x2).toNatClampNeg) ∧ ∃ (I2 : Nat → Nat → Int32), Runs (GW L xs) d 93 (0, [.ref 75, .int (I1 22 ((x2).toNatClampNeg)), .int x1], [], (zS I1 J tg)) (none, (zS I2 J tg)) ∧ (¬ (0 : Int32) < 0 ∧ ¬ (x2 * 12) < 0 ∧ ¬ (12 : Int32) < 0 ∧ (0 : Int32).toNatClampNeg + (12 : Int32).toNatClampNeg ≤ 12 ∧ (x2 * 12).toNatClampNeg + (12 : Int32).toNatClampNeg ≤ 96) ∧ ∃ (v3 : Int32) (I4 : Nat → Nat → Int32), Runs (GW L xs) d 102 (0, [.ref 75], [], (zS (upR I2 87 (va_cpy (I2 77) (I2 87) (0 : Int32).toNatClampNeg (x2 * 12).toNatClampNeg (12 : Int32).toNatClampNeg)) J tg)) ((some (.int v3)), (zS I4 J tg)) ∧ ¬ (x2 < 0 ∨ 8 ≤ (x2).toNatClampNeg) ∧ ¬ (x2 < 0 ∨ 8 ≤ (x2).toNatClampNeg) ∧ Runs (GW L xs) (d + 1) 32 (11, [.ref 86, .int x1, .int (x2 + 1)], [], (zS (up2 (up2 I4 88 ((x2).toNatClampNeg) v3) 90 ((x2).toNatClampNeg) x2) J tg)) r)))) : Runs (GW L xs) (d + 1) 32 (11, [.ref 86, .int x1, .int x2], [], (zS I J tg)) r := by
  refine Runs.sN 4 (c' := (19, [.ref 86, .int x1, .int x2], [.int (I 18 3), .int x2], (zS I J tg))) rfl ?_
  by_cases c5 : (I 18 3) ≤ x2
  · rw [if_pos c5] at h
    refine Runs.brT (P := (I 18 3) ≤ x2) (a := 103) (b := 22) (L := [.ref 86, .int x1, .int x2]) (S := []) (z := (zS I J tg)) rfl c5 ?_
    subst h
    exact Runs.rt rfl
  · rw [if_neg c5] at h
    refine Runs.brF (P := (I 18 3) ≤ x2) (a := 103) (b := 22) (L := [.ref 86, .int x1, .int x2]) (S := []) (z := (zS I J tg)) rfl c5 ?_
    refine Runs.sN 6 (c' := (34, [.ref 86, .int x1, .int x2], [.int x2, .ref 22, .ref 75], (zS I J tg))) rfl ?_
    obtain ⟨c6, h⟩ := h
    refine Runs.to (c' := (35, [.ref 86, .int x1, .int x2], [.int (I 22 ((x2).toNatClampNeg)), .ref 75], (zS I J tg))) (Runs.ild rfl (show (22 : Nat) < 114 by decide) rfl c6) ?_
    refine Runs.sN 1 (c' := (36, [.ref 86, .int x1, .int x2], [.int x1, .int (I 22 ((x2).toNatClampNeg)), .ref 75], (zS I J tg))) rfl ?_
    obtain ⟨I1, c7, h⟩ := h
    refine Runs.cl (cm := 92) (as := [.ref 75, .int (I 22 ((x2).toNatClampNeg)), .int x1]) (rest := []) (r1 := (none, (zS I1 J tg))) rfl (Nat.le_of_ble_eq_true rfl) c7 ?_
    refine Runs.as (c' := (39, [.ref 86, .int x1, .int x2], [], (zS I1 J tg))) rfl ?_
    refine Runs.sN 6 (c' := (51, [.ref 86, .int x1, .int x2], [.int x2, .ref 22, .ref 75], (zS I1 J tg))) rfl ?_
    obtain ⟨c8, h⟩ := h
    refine Runs.to (c' := (52, [.ref 86, .int x1, .int x2], [.int (I1 22 ((x2).toNatClampNeg)), .ref 75], (zS I1 J tg))) (Runs.ild rfl (show (22 : Nat) < 114 by decide) rfl c8) ?_
    refine Runs.sN 1 (c' := (53, [.ref 86, .int x1, .int x2], [.int x1, .int (I1 22 ((x2).toNatClampNeg)), .ref 75], (zS I1 J tg))) rfl ?_
    obtain ⟨I2, c9, h⟩ := h
    refine Runs.cl (cm := 93) (as := [.ref 75, .int (I1 22 ((x2).toNatClampNeg)), .int x1]) (rest := []) (r1 := (none, (zS I2 J tg))) rfl (Nat.le_of_ble_eq_true rfl) c9 ?_
    refine Runs.as (c' := (56, [.ref 86, .int x1, .int x2], [], (zS I2 J tg))) rfl ?_
    refine Runs.sN 10 (c' := (74, [.ref 86, .int x1, .int x2], [.int 12, .int (x2 * 12), .ref 87, .int 0, .ref 77], (zS I2 J tg))) rfl ?_
    obtain ⟨c10, h⟩ := h
    refine Runs.to (c' := (77, [.ref 86, .int x1, .int x2], [], (zS (upR I2 87 (va_cpy (I2 77) (I2 87) (0 : Int32).toNatClampNeg (x2 * 12).toNatClampNeg (12 : Int32).toNatClampNeg)) J tg))) (Runs.acp rfl rfl (Nat.le_of_ble_eq_true rfl) (by decide) (by decide) c10) ?_
    refine Runs.sN 5 (c' := (86, [.ref 86, .int x1, .int x2], [.ref 75, .int x2, .ref 88], (zS (upR I2 87 (va_cpy (I2 77) (I2 87) (0 : Int32).toNatClampNeg (x2 * 12).toNatClampNeg (12 : Int32).toNatClampNeg)) J tg))) rfl ?_
    obtain ⟨v3, I4, c11, h⟩ := h
    refine Runs.cl (cm := 102) (as := [.ref 75]) (rest := [.int x2, .ref 88]) (r1 := ((some (.int v3)), (zS I4 J tg))) rfl (Nat.le_of_ble_eq_true rfl) c11 ?_
    refine Runs.as (c' := (89, [.ref 86, .int x1, .int x2], [.int v3, .int x2, .ref 88], (zS I4 J tg))) rfl ?_
    obtain ⟨c12, h⟩ := h
    refine Runs.to (c' := (90, [.ref 86, .int x1, .int x2], [], (zS (up2 I4 88 ((x2).toNatClampNeg) v3) J tg))) (Runs.ist rfl (show (88 : Nat) < 114 by decide) rfl c12) ?_
    refine Runs.sN 4 (c' := (96, [.ref 86, .int x1, .int x2], [.int x2, .int x2, .ref 90], (zS (up2 I4 88 ((x2).toNatClampNeg) v3) J tg))) rfl ?_
    obtain ⟨c13, h⟩ := h
    refine Runs.to (c' := (97, [.ref 86, .int x1, .int x2], [], (zS (up2 (up2 I4 88 ((x2).toNatClampNeg) v3) 90 ((x2).toNatClampNeg) x2) J tg))) (Runs.ist rfl (show (90 : Nat) < 114 by decide) rfl c13) ?_
    refine Runs.sN 2 (c' := (11, [.ref 86, .int x1, .int (x2 + 1)], [], (zS (up2 (up2 I4 88 ((x2).toNatClampNeg) v3) 90 ((x2).toNatClampNeg) x2) J tg))) rfl ?_
    exact h
-- X8_tokenOfSign 
theorem sg_79 {L d : Nat} {xs : Nat → Int32} (I : Nat → Nat → Int32) (J : Nat → Nat → Int64) (tg : Option Nat) (a1 : Int32) {r : Option Value × SS} (h : ((if Int32.toInt a1 < 35 ∨ 62 < Int32.toInt a1 then (r = (some (.int 1), (zS I J tg))) else (if a1 = 35 then (r = (some (.int 14), (zS I J tg))) else (if a1 = 36 then (r = (some (.int 1), (zS I J tg))) else (if a1 = 37 then (r = (some (.int 1), (zS I J tg))) else (if a1 = 38 then (r = (some (.int 1), (zS I J tg))) else (if a1 = 39 then (r = (some (.int 1), (zS I J tg))) else (if a1 = 40 then (r = (some (.int 18), (zS I J tg))) else (if a1 = 41 then (r = (some (.int 19), (zS I J tg))) else (if a1 = 42 then (r = (some (.int 17), (zS I J tg))) else (if a1 = 43 then (r = (some (.int 15), (zS I J tg))) else (if a1 = 44 then (r = (some (.int 1), (zS I J tg))) else (if a1 = 45 then (r = (some (.int 16), (zS I J tg))) else (if a1 = 46 then (r = (some (.int 1), (zS I J tg))) else (if a1 = 47 then (r = (some (.int 1), (zS I J tg))) else (if a1 = 48 then (r = (some (.int 1), (zS I J tg))) else (if a1 = 49 then (r = (some (.int 1), (zS I J tg))) else (if a1 = 50 then (r = (some (.int 1), (zS I J tg))) else (if a1 = 51 then (r = (some (.int 1), (zS I J tg))) else (if a1 = 52 then (r = (some (.int 1), (zS I J tg))) else (if a1 = 53 then (r = (some (.int 1), (zS I J tg))) else (if a1 = 54 then (r = (some (.int 1), (zS I J tg))) else (if a1 = 55 then (r = (some (.int 1), (zS I J tg))) else (if a1 = 56 then (r = (some (.int 1), (zS I J tg))) else (if a1 = 57 then (r = (some (.int 1), (zS I J tg))) else (if a1 = 58 then (r = (some (.int 1), (zS I J tg))) else (if a1 = 59 then (r = (some (.int 20), (zS I J tg))) else (if a1 = 60 then (r = (some (.int 9), (zS I J tg))) else (if a1 = 61 then (r = (some (.int 13), (zS I J tg))) else (if a1 = 62 then (r = (some (.int 11), (zS I J tg))) else False))))))))))))))))))))))))))))))) : Runs (GW L xs) d 79 (0, [.int a1], [], (zS I J tg)) r := by
  refine Runs.sN 1 (c' := (1, [.int a1], [.int a1], (zS I J tg))) rfl ?_
  by_cases c1 : Int32.toInt a1 < 35 ∨ 62 < Int32.toInt a1
  · rw [if_pos c1] at h
    refine Runs.to (c' := (158, [.int a1], [], (zS I J tg))) (Runs.swd rfl c1) ?_
    refine Runs.sN 1 (c' := (159, [.int a1], [.int 1], (zS I J tg))) rfl ?_
    subst h
    exact Runs.rt rfl
  · rw [if_neg c1] at h
    by_cases c2 : a1 = 35
    · rw [if_pos c2] at h
      refine Runs.to (c' := (137, [.int a1], [], (zS I J tg))) (Runs.swj rfl c2 rfl) ?_
      refine Runs.sN 1 (c' := (139, [.int a1], [.int 14], (zS I J tg))) rfl ?_
      subst h
      exact Runs.rt rfl
    rw [if_neg c2] at h
    by_cases c3 : a1 = 36
    · rw [if_pos c3] at h
      refine Runs.to (c' := (158, [.int a1], [], (zS I J tg))) (Runs.swj rfl c3 rfl) ?_
      refine Runs.sN 1 (c' := (159, [.int a1], [.int 1], (zS I J tg))) rfl ?_
      subst h
      exact Runs.rt rfl
    rw [if_neg c3] at h
    by_cases c4 : a1 = 37
    · rw [if_pos c4] at h
      refine Runs.to (c' := (158, [.int a1], [], (zS I J tg))) (Runs.swj rfl c4 rfl) ?_
      refine Runs.sN 1 (c' := (159, [.int a1], [.int 1], (zS I J tg))) rfl ?_
      subst h
      exact Runs.rt rfl
    rw [if_neg c4] at h
    by_cases c5 : a1 = 38
    · rw [if_pos c5] at h
      refine Runs.to (c' := (158, [.int a1], [], (zS I J tg))) (Runs.swj rfl c5 rfl) ?_
      refine Runs.sN 1 (c' := (159, [.int a1], [.int 1], (zS I J tg))) rfl ?_
      subst h
      exact Runs.rt rfl
    rw [if_neg c5] at h
    by_cases c6 : a1 = 39
    · rw [if_pos c6] at h
      refine Runs.to (c' := (158, [.int a1], [], (zS I J tg))) (Runs.swj rfl c6 rfl) ?_
      refine Runs.sN 1 (c' := (159, [.int a1], [.int 1], (zS I J tg))) rfl ?_
      subst h
      exact Runs.rt rfl
    rw [if_neg c6] at h
    by_cases c7 : a1 = 40
    · rw [if_pos c7] at h
      refine Runs.to (c' := (149, [.int a1], [], (zS I J tg))) (Runs.swj rfl c7 rfl) ?_
      refine Runs.sN 1 (c' := (151, [.int a1], [.int 18], (zS I J tg))) rfl ?_
      subst h
      exact Runs.rt rfl
    rw [if_neg c7] at h
    by_cases c8 : a1 = 41
    · rw [if_pos c8] at h
      refine Runs.to (c' := (152, [.int a1], [], (zS I J tg))) (Runs.swj rfl c8 rfl) ?_
      refine Runs.sN 1 (c' := (154, [.int a1], [.int 19], (zS I J tg))) rfl ?_
      subst h
      exact Runs.rt rfl
    rw [if_neg c8] at h
    by_cases c9 : a1 = 42
    · rw [if_pos c9] at h
      refine Runs.to (c' := (146, [.int a1], [], (zS I J tg))) (Runs.swj rfl c9 rfl) ?_
      refine Runs.sN 1 (c' := (148, [.int a1], [.int 17], (zS I J tg))) rfl ?_
      subst h
      exact Runs.rt rfl
    rw [if_neg c9] at h
    by_cases c10 : a1 = 43
    · rw [if_pos c10] at h
      refine Runs.to (c' := (140, [.int a1], [], (zS I J tg))) (Runs.swj rfl c10 rfl) ?_
      refine Runs.sN 1 (c' := (142, [.int a1], [.int 15], (zS I J tg))) rfl ?_
      subst h
      exact Runs.rt rfl
    rw [if_neg c10] at h
    by_cases c11 : a1 = 44
    · rw [if_pos c11] at h
      refine Runs.to (c' := (158, [.int a1], [], (zS I J tg))) (Runs.swj rfl c11 rfl) ?_
      refine Runs.sN 1 (c' := (159, [.int a1], [.int 1], (zS I J tg))) rfl ?_
      subst h
      exact Runs.rt rfl
    rw [if_neg c11] at h
    by_cases c12 : a1 = 45
    · rw [if_pos c12] at h
      refine Runs.to (c' := (143, [.int a1], [], (zS I J tg))) (Runs.swj rfl c12 rfl) ?_
      refine Runs.sN 1 (c' := (145, [.int a1], [.int 16], (zS I J tg))) rfl ?_
      subst h
      exact Runs.rt rfl
    rw [if_neg c12] at h
    by_cases c13 : a1 = 46
    · rw [if_pos c13] at h
      refine Runs.to (c' := (158, [.int a1], [], (zS I J tg))) (Runs.swj rfl c13 rfl) ?_
      refine Runs.sN 1 (c' := (159, [.int a1], [.int 1], (zS I J tg))) rfl ?_
      subst h
      exact Runs.rt rfl
    rw [if_neg c13] at h
    by_cases c14 : a1 = 47
    · rw [if_pos c14] at h
      refine Runs.to (c' := (158, [.int a1], [], (zS I J tg))) (Runs.swj rfl c14 rfl) ?_
      refine Runs.sN 1 (c' := (159, [.int a1], [.int 1], (zS I J tg))) rfl ?_
      subst h
      exact Runs.rt rfl
    rw [if_neg c14] at h
    by_cases c15 : a1 = 48
    · rw [if_pos c15] at h
      refine Runs.to (c' := (158, [.int a1], [], (zS I J tg))) (Runs.swj rfl c15 rfl) ?_
      refine Runs.sN 1 (c' := (159, [.int a1], [.int 1], (zS I J tg))) rfl ?_
      subst h
      exact Runs.rt rfl
    rw [if_neg c15] at h
    by_cases c16 : a1 = 49
    · rw [if_pos c16] at h
      refine Runs.to (c' := (158, [.int a1], [], (zS I J tg))) (Runs.swj rfl c16 rfl) ?_
      refine Runs.sN 1 (c' := (159, [.int a1], [.int 1], (zS I J tg))) rfl ?_
      subst h
      exact Runs.rt rfl
    rw [if_neg c16] at h
    by_cases c17 : a1 = 50
    · rw [if_pos c17] at h
      refine Runs.to (c' := (158, [.int a1], [], (zS I J tg))) (Runs.swj rfl c17 rfl) ?_
      refine Runs.sN 1 (c' := (159, [.int a1], [.int 1], (zS I J tg))) rfl ?_
      subst h
      exact Runs.rt rfl
    rw [if_neg c17] at h
    by_cases c18 : a1 = 51
    · rw [if_pos c18] at h
      refine Runs.to (c' := (158, [.int a1], [], (zS I J tg))) (Runs.swj rfl c18 rfl) ?_
      refine Runs.sN 1 (c' := (159, [.int a1], [.int 1], (zS I J tg))) rfl ?_
      subst h
      exact Runs.rt rfl
    rw [if_neg c18] at h
    by_cases c19 : a1 = 52
    · rw [if_pos c19] at h
      refine Runs.to (c' := (158, [.int a1], [], (zS I J tg))) (Runs.swj rfl c19 rfl) ?_
      refine Runs.sN 1 (c' := (159, [.int a1], [.int 1], (zS I J tg))) rfl ?_
      subst h
      exact Runs.rt rfl
    rw [if_neg c19] at h
    by_cases c20 : a1 = 53
    · rw [if_pos c20] at h
      refine Runs.to (c' := (158, [.int a1], [], (zS I J tg))) (Runs.swj rfl c20 rfl) ?_
      refine Runs.sN 1 (c' := (159, [.int a1], [.int 1], (zS I J tg))) rfl ?_
      subst h
      exact Runs.rt rfl
    rw [if_neg c20] at h
    by_cases c21 : a1 = 54
    · rw [if_pos c21] at h
      refine Runs.to (c' := (158, [.int a1], [], (zS I J tg))) (Runs.swj rfl c21 rfl) ?_
      refine Runs.sN 1 (c' := (159, [.int a1], [.int 1], (zS I J tg))) rfl ?_
      subst h
      exact Runs.rt rfl
    rw [if_neg c21] at h
    by_cases c22 : a1 = 55
    · rw [if_pos c22] at h
      refine Runs.to (c' := (158, [.int a1], [], (zS I J tg))) (Runs.swj rfl c22 rfl) ?_
      refine Runs.sN 1 (c' := (159, [.int a1], [.int 1], (zS I J tg))) rfl ?_
      subst h
      exact Runs.rt rfl
    rw [if_neg c22] at h
    by_cases c23 : a1 = 56
    · rw [if_pos c23] at h
      refine Runs.to (c' := (158, [.int a1], [], (zS I J tg))) (Runs.swj rfl c23 rfl) ?_
      refine Runs.sN 1 (c' := (159, [.int a1], [.int 1], (zS I J tg))) rfl ?_
      subst h
      exact Runs.rt rfl
    rw [if_neg c23] at h
    by_cases c24 : a1 = 57
    · rw [if_pos c24] at h
      refine Runs.to (c' := (158, [.int a1], [], (zS I J tg))) (Runs.swj rfl c24 rfl) ?_
      refine Runs.sN 1 (c' := (159, [.int a1], [.int 1], (zS I J tg))) rfl ?_
      subst h
      exact Runs.rt rfl
    rw [if_neg c24] at h
    by_cases c25 : a1 = 58
    · rw [if_pos c25] at h
      refine Runs.to (c' := (158, [.int a1], [], (zS I J tg))) (Runs.swj rfl c25 rfl) ?_
      refine Runs.sN 1 (c' := (159, [.int a1], [.int 1], (zS I J tg))) rfl ?_
      subst h
      exact Runs.rt rfl
    rw [if_neg c25] at h
    by_cases c26 : a1 = 59
    · rw [if_pos c26] at h
      refine Runs.to (c' := (155, [.int a1], [], (zS I J tg))) (Runs.swj rfl c26 rfl) ?_
      refine Runs.sN 1 (c' := (157, [.int a1], [.int 20], (zS I J tg))) rfl ?_
      subst h
      exact Runs.rt rfl
    rw [if_neg c26] at h
    by_cases c27 : a1 = 60
    · rw [if_pos c27] at h
      refine Runs.to (c' := (128, [.int a1], [], (zS I J tg))) (Runs.swj rfl c27 rfl) ?_
      refine Runs.sN 1 (c' := (130, [.int a1], [.int 9], (zS I J tg))) rfl ?_
      subst h
      exact Runs.rt rfl
    rw [if_neg c27] at h
    by_cases c28 : a1 = 61
    · rw [if_pos c28] at h
      refine Runs.to (c' := (134, [.int a1], [], (zS I J tg))) (Runs.swj rfl c28 rfl) ?_
      refine Runs.sN 1 (c' := (136, [.int a1], [.int 13], (zS I J tg))) rfl ?_
      subst h
      exact Runs.rt rfl
    rw [if_neg c28] at h
    by_cases c29 : a1 = 62
    · rw [if_pos c29] at h
      refine Runs.to (c' := (131, [.int a1], [], (zS I J tg))) (Runs.swj rfl c29 rfl) ?_
      refine Runs.sN 1 (c' := (133, [.int a1], [.int 11], (zS I J tg))) rfl ?_
      subst h
      exact Runs.rt rfl
    rw [if_neg c29] at h
    exact h.elim
