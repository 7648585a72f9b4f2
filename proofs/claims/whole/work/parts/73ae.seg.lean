-- X8_scanWord 
theorem sg_76 {L d : Nat} {xs : Nat → Int32} (I : Nat → Nat → Int32) (J : Nat → Nat → Int64) (tg : Option Nat) {r : Option Value × SS} (h : (Runs (GW L xs) (d + 1) 76 (5, [.ref 67, .int (I 67 14)], [], (zS I J tg)) r)) : Runs (GW L xs) (d + 1) 76 (0, [.ref 67, vU], [], (zS I J tg)) r := by
  refine Runs.sN 3 (c' := (5, [.ref 67, .int (I 67 14)], [], (zS I J tg))) rfl ?_
  exact h
theorem sg_76_5 {L d : Nat} {xs : Nat → Int32} (I : Nat → Nat → Int32) (J : Nat → Nat → Int64) (tg : Option Nat) (x1 : Int32) {r : Option Value × SS} (h : ((if (I 67 2) ≤ x1 then (∃ (v1 : Int32) (I2 : Nat → Nat → Int32) (J3 : Nat → Nat → Int64) (tg4 : Option Nat), Runs (GW L xs) d 77 (0, [.ref 67, vU, vU, vU, vU, vU], [], (zS I J tg)) ((some (.int v1)), (zS I2 J3 tg4)) ∧ (if v1 = (-1) then (r = (none, (zS (up2 (up2 I2 67 13 v1) 67 12 1) J3 tg4))) else ((if 12 ≤ v1 then (r = (none, (zS (up2 (up2 I2 67 13 v1) 67 12 ((4 + v1) - 12)) J3 tg4))) else (r = (none, (zS (up2 (up2 I2 67 13 v1) 67 12 3) J3 tg4))))))) else (¬ (x1 < 0 ∨ 300 ≤ (x1).toNatClampNeg) ∧ ∃ (v5 : Int32) (I6 : Nat → Nat → Int32) (J7 : Nat → Nat → Int64) (tg8 : Option Nat), Runs (GW L xs) d 74 (0, [.int (I 68 ((x1).toNatClampNeg))], [], (zS I J tg)) ((some (.int v5)), (zS I6 J7 tg8)) ∧ (if v5 = 0 then (∃ (v9 : Int32) (I10 : Nat → Nat → Int32) (J11 : Nat → Nat → Int64) (tg12 : Option Nat), Runs (GW L xs) d 77 (0, [.ref 67, vU, vU, vU, vU, vU], [], (zS I6 J7 tg8)) ((some (.int v9)), (zS I10 J11 tg12)) ∧ (if v9 = (-1) then (r = (none, (zS (up2 (up2 I10 67 13 v9) 67 12 1) J11 tg12))) else ((if 12 ≤ v9 then (r = (none, (zS (up2 (up2 I10 67 13 v9) 67 12 ((4 + v9) - 12)) J11 tg12))) else (r = (none, (zS (up2 (up2 I10 67 13 v9) 67 12 3) J11 tg12))))))) else (Runs (GW L xs) (d + 1) 76 (5, [.ref 67, .int (x1 + 1)], [], (zS (up2 I6 67 15 (x1 + 1)) J7 tg8)) r)))))) : Runs (GW L xs) (d + 1) 76 (5, [.ref 67, .int x1], [], (zS I J tg)) r := by
  refine Runs.sN 3 (c' := (10, [.ref 67, .int x1], [.int (I 67 2), .int x1], (zS I J tg))) rfl ?_
  by_cases c13 : (I 67 2) ≤ x1
  · rw [if_pos c13] at h
    refine Runs.brT (P := (I 67 2) ≤ x1) (a := 38) (b := 13) (L := [.ref 67, .int x1]) (S := []) (z := (zS I J tg)) rfl c13 ?_
    refine Runs.sN 2 (c' := (40, [.ref 67, .int x1], [.ref 67, .ref 67], (zS I J tg))) rfl ?_
    obtain ⟨v1, I2, J3, tg4, c14, h⟩ := h
    refine Runs.cl (cm := 77) (as := [.ref 67]) (rest := [.ref 67]) (r1 := ((some (.int v1)), (zS I2 J3 tg4))) rfl (Nat.le_of_ble_eq_true rfl) c14 ?_
    refine Runs.as (c' := (43, [.ref 67, .int x1], [.int v1, .ref 67], (zS I2 J3 tg4))) rfl ?_
    refine Runs.sN 4 (c' := (51, [.ref 67, .int x1], [.int (-1), .int v1], (zS (up2 I2 67 13 v1) J3 tg4))) rfl ?_
    by_cases c15 : v1 = (-1)
    · rw [if_pos c15] at h
      refine Runs.brT (P := v1 = (-1)) (a := 54) (b := 62) (L := [.ref 67, .int x1]) (S := []) (z := (zS (up2 I2 67 13 v1) J3 tg4)) rfl c15 ?_
      refine Runs.sN 4 (c' := (88, [.ref 67, .int x1], [], (zS (up2 (up2 I2 67 13 v1) 67 12 1) J3 tg4))) rfl ?_
      subst h
      exact Runs.rt rfl
    · rw [if_neg c15] at h
      refine Runs.brF (P := v1 = (-1)) (a := 54) (b := 62) (L := [.ref 67, .int x1]) (S := []) (z := (zS (up2 I2 67 13 v1) J3 tg4)) rfl c15 ?_
      refine Runs.sN 4 (c' := (69, [.ref 67, .int x1], [.int 12, .int v1, .ref 67], (zS (up2 I2 67 13 v1) J3 tg4))) rfl ?_
      by_cases c16 : 12 ≤ v1
      · rw [if_pos c16] at h
        refine Runs.brT (P := 12 ≤ v1) (a := 76) (b := 72) (L := [.ref 67, .int x1]) (S := [.ref 67]) (z := (zS (up2 I2 67 13 v1) J3 tg4)) rfl c16 ?_
        refine Runs.sN 7 (c' := (88, [.ref 67, .int x1], [], (zS (up2 (up2 I2 67 13 v1) 67 12 ((4 + v1) - 12)) J3 tg4))) rfl ?_
        subst h
        exact Runs.rt rfl
      · rw [if_neg c16] at h
        refine Runs.brF (P := 12 ≤ v1) (a := 76) (b := 72) (L := [.ref 67, .int x1]) (S := [.ref 67]) (z := (zS (up2 I2 67 13 v1) J3 tg4)) rfl c16 ?_
        refine Runs.sN 3 (c' := (88, [.ref 67, .int x1], [], (zS (up2 (up2 I2 67 13 v1) 67 12 3) J3 tg4))) rfl ?_
        subst h
        exact Runs.rt rfl
  · rw [if_neg c13] at h
    refine Runs.brF (P := (I 67 2) ≤ x1) (a := 38) (b := 13) (L := [.ref 67, .int x1]) (S := []) (z := (zS I J tg)) rfl c13 ?_
    refine Runs.sN 3 (c' := (18, [.ref 67, .int x1], [.int x1, .ref 68], (zS I J tg))) rfl ?_
    obtain ⟨c17, h⟩ := h
    refine Runs.to (c' := (19, [.ref 67, .int x1], [.int (I 68 ((x1).toNatClampNeg))], (zS I J tg))) (Runs.bld rfl (show (68 : Nat) < 114 by decide) rfl c17) ?_
    obtain ⟨v5, I6, J7, tg8, c18, h⟩ := h
    refine Runs.cl (cm := 74) (as := [.int (I 68 ((x1).toNatClampNeg))]) (rest := []) (r1 := ((some (.int v5)), (zS I6 J7 tg8))) rfl (Nat.le_of_ble_eq_true rfl) c18 ?_
    refine Runs.as (c' := (22, [.ref 67, .int x1], [.int v5], (zS I6 J7 tg8))) rfl ?_
    by_cases c19 : v5 = 0
    · rw [if_pos c19] at h
      refine Runs.brT (P := v5 = 0) (a := 38) (b := 25) (L := [.ref 67, .int x1]) (S := []) (z := (zS I6 J7 tg8)) rfl c19 ?_
      refine Runs.sN 2 (c' := (40, [.ref 67, .int x1], [.ref 67, .ref 67], (zS I6 J7 tg8))) rfl ?_
      obtain ⟨v9, I10, J11, tg12, c20, h⟩ := h
      refine Runs.cl (cm := 77) (as := [.ref 67]) (rest := [.ref 67]) (r1 := ((some (.int v9)), (zS I10 J11 tg12))) rfl (Nat.le_of_ble_eq_true rfl) c20 ?_
      refine Runs.as (c' := (43, [.ref 67, .int x1], [.int v9, .ref 67], (zS I10 J11 tg12))) rfl ?_
      refine Runs.sN 4 (c' := (51, [.ref 67, .int x1], [.int (-1), .int v9], (zS (up2 I10 67 13 v9) J11 tg12))) rfl ?_
      by_cases c21 : v9 = (-1)
      · rw [if_pos c21] at h
        refine Runs.brT (P := v9 = (-1)) (a := 54) (b := 62) (L := [.ref 67, .int x1]) (S := []) (z := (zS (up2 I10 67 13 v9) J11 tg12)) rfl c21 ?_
        refine Runs.sN 4 (c' := (88, [.ref 67, .int x1], [], (zS (up2 (up2 I10 67 13 v9) 67 12 1) J11 tg12))) rfl ?_
        subst h
        exact Runs.rt rfl
      · rw [if_neg c21] at h
        refine Runs.brF (P := v9 = (-1)) (a := 54) (b := 62) (L := [.ref 67, .int x1]) (S := []) (z := (zS (up2 I10 67 13 v9) J11 tg12)) rfl c21 ?_
        refine Runs.sN 4 (c' := (69, [.ref 67, .int x1], [.int 12, .int v9, .ref 67], (zS (up2 I10 67 13 v9) J11 tg12))) rfl ?_
        by_cases c22 : 12 ≤ v9
        · rw [if_pos c22] at h
          refine Runs.brT (P := 12 ≤ v9) (a := 76) (b := 72) (L := [.ref 67, .int x1]) (S := [.ref 67]) (z := (zS (up2 I10 67 13 v9) J11 tg12)) rfl c22 ?_
          refine Runs.sN 7 (c' := (88, [.ref 67, .int x1], [], (zS (up2 (up2 I10 67 13 v9) 67 12 ((4 + v9) - 12)) J11 tg12))) rfl ?_
          subst h
          exact Runs.rt rfl
        · rw [if_neg c22] at h
          refine Runs.brF (P := 12 ≤ v9) (a := 76) (b := 72) (L := [.ref 67, .int x1]) (S := [.ref 67]) (z := (zS (up2 I10 67 13 v9) J11 tg12)) rfl c22 ?_
          refine Runs.sN 3 (c' := (88, [.ref 67, .int x1], [], (zS (up2 (up2 I10 67 13 v9) 67 12 3) J11 tg12))) rfl ?_
          subst h
          exact Runs.rt rfl
    · rw [if_neg c19] at h
      refine Runs.brF (P := v5 = 0) (a := 38) (b := 25) (L := [.ref 67, .int x1]) (S := []) (z := (zS I6 J7 tg8)) rfl c19 ?_
      refine Runs.sN 7 (c' := (5, [.ref 67, .int (x1 + 1)], [], (zS (up2 I6 67 15 (x1 + 1)) J7 tg8))) rfl ?_
      exact h
-- X8_numberOfWord 
theorem sg_77 {L d : Nat} {xs : Nat → Int32} (I : Nat → Nat → Int32) (J : Nat → Nat → Int64) (tg : Option Nat) {r : Option Value × SS} (h : (Runs (GW L xs) d 77 (12, [.ref 67, .int 0, .int (I 67 14), .int 1, .int 0, vU], [], (zS I J tg)) r)) : Runs (GW L xs) d 77 (0, [.ref 67, vU, vU, vU, vU, vU], [], (zS I J tg)) r := by
  refine Runs.sN 9 (c' := (12, [.ref 67, .int 0, .int (I 67 14), .int 1, .int 0, vU], [], (zS I J tg))) rfl ?_
  exact h
theorem sg_77_12 {L d : Nat} {xs : Nat → Int32} (I : Nat → Nat → Int32) (J : Nat → Nat → Int64) (tg : Option Nat) (x1 : Int32) (x2 : Int32) (x3 : Int32) (x4 : Int32) {r : Option Value × SS} (h : ((if 94 ≤ x4 then (r = (some (.int (-1)), (zS I J tg))) else (¬ (x4 < 0 ∨ 94 ≤ (x4).toNatClampNeg) ∧ (if (wordsT.getD (x4).toNatClampNeg 0) = 32 then ((if x3 = 0 then (Runs (GW L xs) d 77 (12, [.ref 67, .int (x1 + 1), .int (I 67 14), .int 1, .int (x4 + 1), vU], [], (zS I J tg)) r) else ((if x2 = (I 67 15) then (r = (some (.int x1), (zS I J tg))) else (Runs (GW L xs) d 77 (12, [.ref 67, .int (x1 + 1), .int (I 67 14), .int 1, .int (x4 + 1), vU], [], (zS I J tg)) r))))) else ((if x3 = 0 then (Runs (GW L xs) d 77 (12, [.ref 67, .int x1, .int x2, .int 0, .int (x4 + 1), vU], [], (zS I J tg)) r) else ((if (I 67 15) ≤ x2 then (Runs (GW L xs) d 77 (12, [.ref 67, .int x1, .int x2, .int 0, .int (x4 + 1), vU], [], (zS I J tg)) r) else (¬ (x2 < 0 ∨ 300 ≤ (x2).toNatClampNeg) ∧ (if (I 68 ((x2).toNatClampNeg)) = (wordsT.getD (x4).toNatClampNeg 0) then (Runs (GW L xs) d 77 (12, [.ref 67, .int x1, .int (x2 + 1), .int x3, .int (x4 + 1), vU], [], (zS I J tg)) r) else (Runs (GW L xs) d 77 (12, [.ref 67, .int x1, .int x2, .int 0, .int (x4 + 1), vU], [], (zS I J tg)) r)))))))))))) : Runs (GW L xs) d 77 (12, [.ref 67, .int x1, .int x2, .int x3, .int x4, vU], [], (zS I J tg)) r := by
  refine Runs.sN 3 (c' := (19, [.ref 67, .int x1, .int x2, .int x3, .int x4, vU], [.int 94, .int x4], (zS I J tg))) rfl ?_
  by_cases c1 : 94 ≤ x4
  · rw [if_pos c1] at h
    refine Runs.brT (P := 94 ≤ x4) (a := 102) (b := 22) (L := [.ref 67, .int x1, .int x2, .int x3, .int x4, vU]) (S := []) (z := (zS I J tg)) rfl c1 ?_
    refine Runs.sN 1 (c' := (103, [.ref 67, .int x1, .int x2, .int x3, .int x4, vU], [.int (-1)], (zS I J tg))) rfl ?_
    subst h
    exact Runs.rt rfl
  · rw [if_neg c1] at h
    refine Runs.brF (P := 94 ≤ x4) (a := 102) (b := 22) (L := [.ref 67, .int x1, .int x2, .int x3, .int x4, vU]) (S := []) (z := (zS I J tg)) rfl c1 ?_
    refine Runs.sN 2 (c' := (26, [.ref 67, .int x1, .int x2, .int x3, .int x4, vU], [.int x4, .retAddr 2], (zS I J tg))) rfl ?_
    obtain ⟨c2, h⟩ := h
    refine Runs.to (c' := (29, [.ref 67, .int x1, .int x2, .int x3, .int x4, vU], [.int (wordsT.getD (x4).toNatClampNeg 0)], (zS I J tg))) (Runs.chr rfl rfl (Nat.le_of_ble_eq_true rfl) c2) ?_
    refine Runs.sN 3 (c' := (35, [.ref 67, .int x1, .int x2, .int x3, .int x4, .int (wordsT.getD (x4).toNatClampNeg 0)], [.int 32, .int (wordsT.getD (x4).toNatClampNeg 0)], (zS I J tg))) rfl ?_
    by_cases c3 : (wordsT.getD (x4).toNatClampNeg 0) = 32
    · rw [if_pos c3] at h
      refine Runs.brT (P := (wordsT.getD (x4).toNatClampNeg 0) = 32) (a := 38) (b := 65) (L := [.ref 67, .int x1, .int x2, .int x3, .int x4, .int (wordsT.getD (x4).toNatClampNeg 0)]) (S := []) (z := (zS I J tg)) rfl c3 ?_
      refine Runs.sN 1 (c' := (39, [.ref 67, .int x1, .int x2, .int x3, .int x4, .int (wordsT.getD (x4).toNatClampNeg 0)], [.int x3], (zS I J tg))) rfl ?_
      by_cases c4 : x3 = 0
      · rw [if_pos c4] at h
        refine Runs.brT (P := x3 = 0) (a := 52) (b := 42) (L := [.ref 67, .int x1, .int x2, .int x3, .int x4, .int (wordsT.getD (x4).toNatClampNeg 0)]) (S := []) (z := (zS I J tg)) rfl c4 ?_
        refine Runs.sN 9 (c' := (12, [.ref 67, .int (x1 + 1), .int (I 67 14), .int 1, .int (x4 + 1), .int (wordsT.getD (x4).toNatClampNeg 0)], [], (zS I J tg))) rfl ?_
        exact Runs.weak (L := [.ref 67, .int (x1 + 1), .int (I 67 14), .int 1, .int (x4 + 1), vU]) (Lle.k (Lle.k (Lle.k (Lle.k (Lle.k (Lle.u Lle.n)))))) h
      · rw [if_neg c4] at h
        refine Runs.brF (P := x3 = 0) (a := 52) (b := 42) (L := [.ref 67, .int x1, .int x2, .int x3, .int x4, .int (wordsT.getD (x4).toNatClampNeg 0)]) (S := []) (z := (zS I J tg)) rfl c4 ?_
        refine Runs.sN 3 (c' := (47, [.ref 67, .int x1, .int x2, .int x3, .int x4, .int (wordsT.getD (x4).toNatClampNeg 0)], [.int (I 67 15), .int x2], (zS I J tg))) rfl ?_
        by_cases c5 : x2 = (I 67 15)
        · rw [if_pos c5] at h
          refine Runs.brT (P := x2 = (I 67 15)) (a := 50) (b := 52) (L := [.ref 67, .int x1, .int x2, .int x3, .int x4, .int (wordsT.getD (x4).toNatClampNeg 0)]) (S := []) (z := (zS I J tg)) rfl c5 ?_
          refine Runs.sN 1 (c' := (51, [.ref 67, .int x1, .int x2, .int x3, .int x4, .int (wordsT.getD (x4).toNatClampNeg 0)], [.int x1], (zS I J tg))) rfl ?_
          subst h
          exact Runs.rt rfl
        · rw [if_neg c5] at h
          refine Runs.brF (P := x2 = (I 67 15)) (a := 50) (b := 52) (L := [.ref 67, .int x1, .int x2, .int x3, .int x4, .int (wordsT.getD (x4).toNatClampNeg 0)]) (S := []) (z := (zS I J tg)) rfl c5 ?_
          refine Runs.sN 9 (c' := (12, [.ref 67, .int (x1 + 1), .int (I 67 14), .int 1, .int (x4 + 1), .int (wordsT.getD (x4).toNatClampNeg 0)], [], (zS I J tg))) rfl ?_
          exact Runs.weak (L := [.ref 67, .int (x1 + 1), .int (I 67 14), .int 1, .int (x4 + 1), vU]) (Lle.k (Lle.k (Lle.k (Lle.k (Lle.k (Lle.u Lle.n)))))) h
    · rw [if_neg c3] at h
      refine Runs.brF (P := (wordsT.getD (x4).toNatClampNeg 0) = 32) (a := 38) (b := 65) (L := [.ref 67, .int x1, .int x2, .int x3, .int x4, .int (wordsT.getD (x4).toNatClampNeg 0)]) (S := []) (z := (zS I J tg)) rfl c3 ?_
      refine Runs.sN 1 (c' := (66, [.ref 67, .int x1, .int x2, .int x3, .int x4, .int (wordsT.getD (x4).toNatClampNeg 0)], [.int x3], (zS I J tg))) rfl ?_
      by_cases c6 : x3 = 0
      · rw [if_pos c6] at h
        refine Runs.brT (P := x3 = 0) (a := 94) (b := 69) (L := [.ref 67, .int x1, .int x2, .int x3, .int x4, .int (wordsT.getD (x4).toNatClampNeg 0)]) (S := []) (z := (zS I J tg)) rfl c6 ?_
        refine Runs.sN 4 (c' := (12, [.ref 67, .int x1, .int x2, .int 0, .int (x4 + 1), .int (wordsT.getD (x4).toNatClampNeg 0)], [], (zS I J tg))) rfl ?_
        exact Runs.weak (L := [.ref 67, .int x1, .int x2, .int 0, .int (x4 + 1), vU]) (Lle.k (Lle.k (Lle.k (Lle.k (Lle.k (Lle.u Lle.n)))))) h
      · rw [if_neg c6] at h
        refine Runs.brF (P := x3 = 0) (a := 94) (b := 69) (L := [.ref 67, .int x1, .int x2, .int x3, .int x4, .int (wordsT.getD (x4).toNatClampNeg 0)]) (S := []) (z := (zS I J tg)) rfl c6 ?_
        refine Runs.sN 3 (c' := (74, [.ref 67, .int x1, .int x2, .int x3, .int x4, .int (wordsT.getD (x4).toNatClampNeg 0)], [.int (I 67 15), .int x2], (zS I J tg))) rfl ?_
        by_cases c7 : (I 67 15) ≤ x2
        · rw [if_pos c7] at h
          refine Runs.brT (P := (I 67 15) ≤ x2) (a := 94) (b := 77) (L := [.ref 67, .int x1, .int x2, .int x3, .int x4, .int (wordsT.getD (x4).toNatClampNeg 0)]) (S := []) (z := (zS I J tg)) rfl c7 ?_
          refine Runs.sN 4 (c' := (12, [.ref 67, .int x1, .int x2, .int 0, .int (x4 + 1), .int (wordsT.getD (x4).toNatClampNeg 0)], [], (zS I J tg))) rfl ?_
          exact Runs.weak (L := [.ref 67, .int x1, .int x2, .int 0, .int (x4 + 1), vU]) (Lle.k (Lle.k (Lle.k (Lle.k (Lle.k (Lle.u Lle.n)))))) h
        · rw [if_neg c7] at h
          refine Runs.brF (P := (I 67 15) ≤ x2) (a := 94) (b := 77) (L := [.ref 67, .int x1, .int x2, .int x3, .int x4, .int (wordsT.getD (x4).toNatClampNeg 0)]) (S := []) (z := (zS I J tg)) rfl c7 ?_
          refine Runs.sN 3 (c' := (82, [.ref 67, .int x1, .int x2, .int x3, .int x4, .int (wordsT.getD (x4).toNatClampNeg 0)], [.int x2, .ref 68], (zS I J tg))) rfl ?_
          obtain ⟨c8, h⟩ := h
          refine Runs.to (c' := (83, [.ref 67, .int x1, .int x2, .int x3, .int x4, .int (wordsT.getD (x4).toNatClampNeg 0)], [.int (I 68 ((x2).toNatClampNeg))], (zS I J tg))) (Runs.bld rfl (show (68 : Nat) < 114 by decide) rfl c8) ?_
          refine Runs.sN 1 (c' := (85, [.ref 67, .int x1, .int x2, .int x3, .int x4, .int (wordsT.getD (x4).toNatClampNeg 0)], [.int (wordsT.getD (x4).toNatClampNeg 0), .int (I 68 ((x2).toNatClampNeg))], (zS I J tg))) rfl ?_
          by_cases c9 : (I 68 ((x2).toNatClampNeg)) = (wordsT.getD (x4).toNatClampNeg 0)
          · rw [if_pos c9] at h
            refine Runs.brT (P := (I 68 ((x2).toNatClampNeg)) = (wordsT.getD (x4).toNatClampNeg 0)) (a := 88) (b := 94) (L := [.ref 67, .int x1, .int x2, .int x3, .int x4, .int (wordsT.getD (x4).toNatClampNeg 0)]) (S := []) (z := (zS I J tg)) rfl c9 ?_
            refine Runs.sN 4 (c' := (12, [.ref 67, .int x1, .int (x2 + 1), .int x3, .int (x4 + 1), .int (wordsT.getD (x4).toNatClampNeg 0)], [], (zS I J tg))) rfl ?_
            exact Runs.weak (L := [.ref 67, .int x1, .int (x2 + 1), .int x3, .int (x4 + 1), vU]) (Lle.k (Lle.k (Lle.k (Lle.k (Lle.k (Lle.u Lle.n)))))) h
          · rw [if_neg c9] at h
            refine Runs.brF (P := (I 68 ((x2).toNatClampNeg)) = (wordsT.getD (x4).toNatClampNeg 0)) (a := 88) (b := 94) (L := [.ref 67, .int x1, .int x2, .int x3, .int x4, .int (wordsT.getD (x4).toNatClampNeg 0)]) (S := []) (z := (zS I J tg)) rfl c9 ?_
            refine Runs.sN 4 (c' := (12, [.ref 67, .int x1, .int x2, .int 0, .int (x4 + 1), .int (wordsT.getD (x4).toNatClampNeg 0)], [], (zS I J tg))) rfl ?_
            exact Runs.weak (L := [.ref 67, .int x1, .int x2, .int 0, .int (x4 + 1), vU]) (Lle.k (Lle.k (Lle.k (Lle.k (Lle.k (Lle.u Lle.n)))))) h
-- X8_scanSign 
theorem sg_78 {L d : Nat} {xs : Nat → Int32} (I : Nat → Nat → Int32) (J : Nat → Nat → Int64) (tg : Option Nat) {r : Option Value × SS} (h : ((if (I 67 2) ≤ ((I 67 14) + 1) then (¬ ((I 67 14) < 0 ∨ 300 ≤ (I 67 14).toNatClampNeg) ∧ ∃ (v13 : Int32) (I14 : Nat → Nat → Int32) (J15 : Nat → Nat → Int64) (tg16 : Option Nat), Runs (GW L xs) d 79 (0, [.int (I 68 ((I 67 14).toNatClampNeg))], [], (zS (up2 I 67 15 ((I 67 14) + 1)) J tg)) ((some (.int v13)), (zS I14 J15 tg16)) ∧ (if (0 : Int32) = 0 then (r = (none, (zS (up2 I14 67 12 v13) J15 tg16))) else ((if v13 = 9 then ((if v13 = 9 then (r = (none, (zS (up2 (up2 (up2 I14 67 12 v13) 67 12 10) 67 15 ((I14 67 15) + 1)) J15 tg16))) else (r = (none, (zS (up2 (up2 (up2 I14 67 12 v13) 67 12 12) 67 15 ((I14 67 15) + 1)) J15 tg16))))) else ((if v13 = 11 then ((if v13 = 9 then (r = (none, (zS (up2 (up2 (up2 I14 67 12 v13) 67 12 10) 67 15 ((I14 67 15) + 1)) J15 tg16))) else (r = (none, (zS (up2 (up2 (up2 I14 67 12 v13) 67 12 12) 67 15 ((I14 67 15) + 1)) J15 tg16))))) else (r = (none, (zS (up2 I14 67 12 v13) J15 tg16))))))))) else (¬ (((I 67 14) + 1) < 0 ∨ 300 ≤ ((I 67 14) + 1).toNatClampNeg) ∧ (if (I 68 (((I 67 14) + 1).toNatClampNeg)) = 61 then (¬ ((I 67 14) < 0 ∨ 300 ≤ (I 67 14).toNatClampNeg) ∧ ∃ (v17 : Int32) (I18 : Nat → Nat → Int32) (J19 : Nat → Nat → Int64) (tg20 : Option Nat), Runs (GW L xs) d 79 (0, [.int (I 68 ((I 67 14).toNatClampNeg))], [], (zS (up2 I 67 15 ((I 67 14) + 1)) J tg)) ((some (.int v17)), (zS I18 J19 tg20)) ∧ (if (1 : Int32) = 0 then (r = (none, (zS (up2 I18 67 12 v17) J19 tg20))) else ((if v17 = 9 then ((if v17 = 9 then (r = (none, (zS (up2 (up2 (up2 I18 67 12 v17) 67 12 10) 67 15 ((I18 67 15) + 1)) J19 tg20))) else (r = (none, (zS (up2 (up2 (up2 I18 67 12 v17) 67 12 12) 67 15 ((I18 67 15) + 1)) J19 tg20))))) else ((if v17 = 11 then ((if v17 = 9 then (r = (none, (zS (up2 (up2 (up2 I18 67 12 v17) 67 12 10) 67 15 ((I18 67 15) + 1)) J19 tg20))) else (r = (none, (zS (up2 (up2 (up2 I18 67 12 v17) 67 12 12) 67 15 ((I18 67 15) + 1)) J19 tg20))))) else (r = (none, (zS (up2 I18 67 12 v17) J19 tg20))))))))) else (¬ ((I 67 14) < 0 ∨ 300 ≤ (I 67 14).toNatClampNeg) ∧ ∃ (v21 : Int32) (I22 : Nat → Nat → Int32) (J23 : Nat → Nat → Int64) (tg24 : Option Nat), Runs (GW L xs) d 79 (0, [.int (I 68 ((I 67 14).toNatClampNeg))], [], (zS (up2 I 67 15 ((I 67 14) + 1)) J tg)) ((some (.int v21)), (zS I22 J23 tg24)) ∧ (if (0 : Int32) = 0 then (r = (none, (zS (up2 I22 67 12 v21) J23 tg24))) else ((if v21 = 9 then ((if v21 = 9 then (r = (none, (zS (up2 (up2 (up2 I22 67 12 v21) 67 12 10) 67 15 ((I22 67 15) + 1)) J23 tg24))) else (r = (none, (zS (up2 (up2 (up2 I22 67 12 v21) 67 12 12) 67 15 ((I22 67 15) + 1)) J23 tg24))))) else ((if v21 = 11 then ((if v21 = 9 then (r = (none, (zS (up2 (up2 (up2 I22 67 12 v21) 67 12 10) 67 15 ((I22 67 15) + 1)) J23 tg24))) else (r = (none, (zS (up2 (up2 (up2 I22 67 12 v21) 67 12 12) 67 15 ((I22 67 15) + 1)) J23 tg24))))) else (r = (none, (zS (up2 I22 67 12 v21) J23 tg24)))))))))))))) : Runs (GW L xs) (d + 1) 78 (0, [.ref 67, vU], [], (zS I J tg)) r := by
  refine Runs.sN 10 (c' := (18, [.ref 67, vU], [.int (I 67 2), .int ((I 67 14) + 1)], (zS (up2 I 67 15 ((I 67 14) + 1)) J tg))) rfl ?_
  by_cases c25 : (I 67 2) ≤ ((I 67 14) + 1)
  · rw [if_pos c25] at h
    refine Runs.brT (P := (I 67 2) ≤ ((I 67 14) + 1)) (a := 39) (b := 21) (L := [.ref 67, vU]) (S := []) (z := (zS (up2 I 67 15 ((I 67 14) + 1)) J tg)) rfl c25 ?_
    refine Runs.sN 7 (c' := (50, [.ref 67, .int 0], [.int (I 67 14), .ref 68, .ref 67], (zS (up2 I 67 15 ((I 67 14) + 1)) J tg))) rfl ?_
    obtain ⟨c26, h⟩ := h
    refine Runs.to (c' := (51, [.ref 67, .int 0], [.int (I 68 ((I 67 14).toNatClampNeg)), .ref 67], (zS (up2 I 67 15 ((I 67 14) + 1)) J tg))) (Runs.bld rfl (show (68 : Nat) < 114 by decide) rfl c26) ?_
    obtain ⟨v13, I14, J15, tg16, c27, h⟩ := h
    refine Runs.cl (cm := 79) (as := [.int (I 68 ((I 67 14).toNatClampNeg))]) (rest := [.ref 67]) (r1 := ((some (.int v13)), (zS I14 J15 tg16))) rfl (Nat.le_of_ble_eq_true rfl) c27 ?_
    refine Runs.as (c' := (54, [.ref 67, .int 0], [.int v13, .ref 67], (zS I14 J15 tg16))) rfl ?_
    refine Runs.sN 2 (c' := (58, [.ref 67, .int 0], [.int 0], (zS (up2 I14 67 12 v13) J15 tg16))) rfl ?_
    by_cases c28 : (0 : Int32) = 0
    · rw [if_pos c28] at h
      refine Runs.brT (P := (0 : Int32) = 0) (a := 109) (b := 61) (L := [.ref 67, .int 0]) (S := []) (z := (zS (up2 I14 67 12 v13) J15 tg16)) rfl c28 ?_
      subst h
      exact Runs.rt rfl
    · rw [if_neg c28] at h
      refine Runs.brF (P := (0 : Int32) = 0) (a := 109) (b := 61) (L := [.ref 67, .int 0]) (S := []) (z := (zS (up2 I14 67 12 v13) J15 tg16)) rfl c28 ?_
      refine Runs.sN 3 (c' := (67, [.ref 67, .int 0], [.int 9, .int v13], (zS (up2 I14 67 12 v13) J15 tg16))) rfl ?_
      by_cases c29 : v13 = 9
      · rw [if_pos c29] at h
        refine Runs.brT (P := v13 = 9) (a := 79) (b := 70) (L := [.ref 67, .int 0]) (S := []) (z := (zS (up2 I14 67 12 v13) J15 tg16)) rfl c29 ?_
        refine Runs.sN 4 (c' := (86, [.ref 67, .int 0], [.int 9, .int v13, .ref 67], (zS (up2 I14 67 12 v13) J15 tg16))) rfl ?_
        by_cases c30 : v13 = 9
        · rw [if_pos c30] at h
          refine Runs.brT (P := v13 = 9) (a := 89) (b := 94) (L := [.ref 67, .int 0]) (S := [.ref 67]) (z := (zS (up2 I14 67 12 v13) J15 tg16)) rfl c30 ?_
          refine Runs.sN 9 (c' := (109, [.ref 67, .int 0], [], (zS (up2 (up2 (up2 I14 67 12 v13) 67 12 10) 67 15 ((I14 67 15) + 1)) J15 tg16))) rfl ?_
          subst h
          exact Runs.rt rfl
        · rw [if_neg c30] at h
          refine Runs.brF (P := v13 = 9) (a := 89) (b := 94) (L := [.ref 67, .int 0]) (S := [.ref 67]) (z := (zS (up2 I14 67 12 v13) J15 tg16)) rfl c30 ?_
          refine Runs.sN 8 (c' := (109, [.ref 67, .int 0], [], (zS (up2 (up2 (up2 I14 67 12 v13) 67 12 12) 67 15 ((I14 67 15) + 1)) J15 tg16))) rfl ?_
          subst h
          exact Runs.rt rfl
      · rw [if_neg c29] at h
        refine Runs.brF (P := v13 = 9) (a := 79) (b := 70) (L := [.ref 67, .int 0]) (S := []) (z := (zS (up2 I14 67 12 v13) J15 tg16)) rfl c29 ?_
        refine Runs.sN 3 (c' := (76, [.ref 67, .int 0], [.int 11, .int v13], (zS (up2 I14 67 12 v13) J15 tg16))) rfl ?_
        by_cases c31 : v13 = 11
        · rw [if_pos c31] at h
          refine Runs.brT (P := v13 = 11) (a := 79) (b := 109) (L := [.ref 67, .int 0]) (S := []) (z := (zS (up2 I14 67 12 v13) J15 tg16)) rfl c31 ?_
          refine Runs.sN 4 (c' := (86, [.ref 67, .int 0], [.int 9, .int v13, .ref 67], (zS (up2 I14 67 12 v13) J15 tg16))) rfl ?_
          by_cases c32 : v13 = 9
          · rw [if_pos c32] at h
            refine Runs.brT (P := v13 = 9) (a := 89) (b := 94) (L := [.ref 67, .int 0]) (S := [.ref 67]) (z := (zS (up2 I14 67 12 v13) J15 tg16)) rfl c32 ?_
            refine Runs.sN 9 (c' := (109, [.ref 67, .int 0], [], (zS (up2 (up2 (up2 I14 67 12 v13) 67 12 10) 67 15 ((I14 67 15) + 1)) J15 tg16))) rfl ?_
            subst h
            exact Runs.rt rfl
          · rw [if_neg c32] at h
            refine Runs.brF (P := v13 = 9) (a := 89) (b := 94) (L := [.ref 67, .int 0]) (S := [.ref 67]) (z := (zS (up2 I14 67 12 v13) J15 tg16)) rfl c32 ?_
            refine Runs.sN 8 (c' := (109, [.ref 67, .int 0], [], (zS (up2 (up2 (up2 I14 67 12 v13) 67 12 12) 67 15 ((I14 67 15) + 1)) J15 tg16))) rfl ?_
            subst h
            exact Runs.rt rfl
        · rw [if_neg c31] at h
          refine Runs.brF (P := v13 = 11) (a := 79) (b := 109) (L := [.ref 67, .int 0]) (S := []) (z := (zS (up2 I14 67 12 v13) J15 tg16)) rfl c31 ?_
          subst h
          exact Runs.rt rfl
  · rw [if_neg c25] at h
    refine Runs.brF (P := (I 67 2) ≤ ((I 67 14) + 1)) (a := 39) (b := 21) (L := [.ref 67, vU]) (S := []) (z := (zS (up2 I 67 15 ((I 67 14) + 1)) J tg)) rfl c25 ?_
    refine Runs.sN 4 (c' := (29, [.ref 67, vU], [.int ((I 67 14) + 1), .ref 68], (zS (up2 I 67 15 ((I 67 14) + 1)) J tg))) rfl ?_
    obtain ⟨c33, h⟩ := h
    refine Runs.to (c' := (30, [.ref 67, vU], [.int (I 68 (((I 67 14) + 1).toNatClampNeg))], (zS (up2 I 67 15 ((I 67 14) + 1)) J tg))) (Runs.bld rfl (show (68 : Nat) < 114 by decide) rfl c33) ?_
    refine Runs.sN 1 (c' := (32, [.ref 67, vU], [.int 61, .int (I 68 (((I 67 14) + 1).toNatClampNeg))], (zS (up2 I 67 15 ((I 67 14) + 1)) J tg))) rfl ?_
    by_cases c34 : (I 68 (((I 67 14) + 1).toNatClampNeg)) = 61
    · rw [if_pos c34] at h
      refine Runs.brT (P := (I 68 (((I 67 14) + 1).toNatClampNeg)) = 61) (a := 35) (b := 39) (L := [.ref 67, vU]) (S := []) (z := (zS (up2 I 67 15 ((I 67 14) + 1)) J tg)) rfl c34 ?_
      refine Runs.sN 8 (c' := (50, [.ref 67, .int 1], [.int (I 67 14), .ref 68, .ref 67], (zS (up2 I 67 15 ((I 67 14) + 1)) J tg))) rfl ?_
      obtain ⟨c35, h⟩ := h
      refine Runs.to (c' := (51, [.ref 67, .int 1], [.int (I 68 ((I 67 14).toNatClampNeg)), .ref 67], (zS (up2 I 67 15 ((I 67 14) + 1)) J tg))) (Runs.bld rfl (show (68 : Nat) < 114 by decide) rfl c35) ?_
      obtain ⟨v17, I18, J19, tg20, c36, h⟩ := h
      refine Runs.cl (cm := 79) (as := [.int (I 68 ((I 67 14).toNatClampNeg))]) (rest := [.ref 67]) (r1 := ((some (.int v17)), (zS I18 J19 tg20))) rfl (Nat.le_of_ble_eq_true rfl) c36 ?_
      refine Runs.as (c' := (54, [.ref 67, .int 1], [.int v17, .ref 67], (zS I18 J19 tg20))) rfl ?_
      refine Runs.sN 2 (c' := (58, [.ref 67, .int 1], [.int 1], (zS (up2 I18 67 12 v17) J19 tg20))) rfl ?_
      by_cases c37 : (1 : Int32) = 0
      · rw [if_pos c37] at h
        refine Runs.brT (P := (1 : Int32) = 0) (a := 109) (b := 61) (L := [.ref 67, .int 1]) (S := []) (z := (zS (up2 I18 67 12 v17) J19 tg20)) rfl c37 ?_
        subst h
        exact Runs.rt rfl
      · rw [if_neg c37] at h
        refine Runs.brF (P := (1 : Int32) = 0) (a := 109) (b := 61) (L := [.ref 67, .int 1]) (S := []) (z := (zS (up2 I18 67 12 v17) J19 tg20)) rfl c37 ?_
        refine Runs.sN 3 (c' := (67, [.ref 67, .int 1], [.int 9, .int v17], (zS (up2 I18 67 12 v17) J19 tg20))) rfl ?_
        by_cases c38 : v17 = 9
        · rw [if_pos c38] at h
          refine Runs.brT (P := v17 = 9) (a := 79) (b := 70) (L := [.ref 67, .int 1]) (S := []) (z := (zS (up2 I18 67 12 v17) J19 tg20)) rfl c38 ?_
          refine Runs.sN 4 (c' := (86, [.ref 67, .int 1], [.int 9, .int v17, .ref 67], (zS (up2 I18 67 12 v17) J19 tg20))) rfl ?_
          by_cases c39 : v17 = 9
          · rw [if_pos c39] at h
            refine Runs.brT (P := v17 = 9) (a := 89) (b := 94) (L := [.ref 67, .int 1]) (S := [.ref 67]) (z := (zS (up2 I18 67 12 v17) J19 tg20)) rfl c39 ?_
            refine Runs.sN 9 (c' := (109, [.ref 67, .int 1], [], (zS (up2 (up2 (up2 I18 67 12 v17) 67 12 10) 67 15 ((I18 67 15) + 1)) J19 tg20))) rfl ?_
            subst h
            exact Runs.rt rfl
          · rw [if_neg c39] at h
            refine Runs.brF (P := v17 = 9) (a := 89) (b := 94) (L := [.ref 67, .int 1]) (S := [.ref 67]) (z := (zS (up2 I18 67 12 v17) J19 tg20)) rfl c39 ?_
            refine Runs.sN 8 (c' := (109, [.ref 67, .int 1], [], (zS (up2 (up2 (up2 I18 67 12 v17) 67 12 12) 67 15 ((I18 67 15) + 1)) J19 tg20))) rfl ?_
            subst h
            exact Runs.rt rfl
        · rw [if_neg c38] at h
          refine Runs.brF (P := v17 = 9) (a := 79) (b := 70) (L := [.ref 67, .int 1]) (S := []) (z := (zS (up2 I18 67 12 v17) J19 tg20)) rfl c38 ?_
          refine Runs.sN 3 (c' := (76, [.ref 67, .int 1], [.int 11, .int v17], (zS (up2 I18 67 12 v17) J19 tg20))) rfl ?_
          by_cases c40 : v17 = 11
          · rw [if_pos c40] at h
            refine Runs.brT (P := v17 = 11) (a := 79) (b := 109) (L := [.ref 67, .int 1]) (S := []) (z := (zS (up2 I18 67 12 v17) J19 tg20)) rfl c40 ?_
            refine Runs.sN 4 (c' := (86, [.ref 67, .int 1], [.int 9, .int v17, .ref 67], (zS (up2 I18 67 12 v17) J19 tg20))) rfl ?_
            by_cases c41 : v17 = 9
            · rw [if_pos c41] at h
              refine Runs.brT (P := v17 = 9) (a := 89) (b := 94) (L := [.ref 67, .int 1]) (S := [.ref 67]) (z := (zS (up2 I18 67 12 v17) J19 tg20)) rfl c41 ?_
              refine Runs.sN 9 (c' := (109, [.ref 67, .int 1], [], (zS (up2 (up2 (up2 I18 67 12 v17) 67 12 10) 67 15 ((I18 67 15) + 1)) J19 tg20))) rfl ?_
              subst h
              exact Runs.rt rfl
            · rw [if_neg c41] at h
              refine Runs.brF (P := v17 = 9) (a := 89) (b := 94) (L := [.ref 67, .int 1]) (S := [.ref 67]) (z := (zS (up2 I18 67 12 v17) J19 tg20)) rfl c41 ?_
              refine Runs.sN 8 (c' := (109, [.ref 67, .int 1], [], (zS (up2 (up2 (up2 I18 67 12 v17) 67 12 12) 67 15 ((I18 67 15) + 1)) J19 tg20))) rfl ?_
              subst h
              exact Runs.rt rfl
          · rw [if_neg c40] at h
            refine Runs.brF (P := v17 = 11) (a := 79) (b := 109) (L := [.ref 67, .int 1]) (S := []) (z := (zS (up2 I18 67 12 v17) J19 tg20)) rfl c40 ?_
            subst h
            exact Runs.rt rfl
    · rw [if_neg c34] at h
      refine Runs.brF (P := (I 68 (((I 67 14) + 1).toNatClampNeg)) = 61) (a := 35) (b := 39) (L := [.ref 67, vU]) (S := []) (z := (zS (up2 I 67 15 ((I 67 14) + 1)) J tg)) rfl c34 ?_
      refine Runs.sN 7 (c' := (50, [.ref 67, .int 0], [.int (I 67 14), .ref 68, .ref 67], (zS (up2 I 67 15 ((I 67 14) + 1)) J tg))) rfl ?_
      obtain ⟨c42, h⟩ := h
      refine Runs.to (c' := (51, [.ref 67, .int 0], [.int (I 68 ((I 67 14).toNatClampNeg)), .ref 67], (zS (up2 I 67 15 ((I 67 14) + 1)) J tg))) (Runs.bld rfl (show (68 : Nat) < 114 by decide) rfl c42) ?_
      obtain ⟨v21, I22, J23, tg24, c43, h⟩ := h
      refine Runs.cl (cm := 79) (as := [.int (I 68 ((I 67 14).toNatClampNeg))]) (rest := [.ref 67]) (r1 := ((some (.int v21)), (zS I22 J23 tg24))) rfl (Nat.le_of_ble_eq_true rfl) c43 ?_
      refine Runs.as (c' := (54, [.ref 67, .int 0], [.int v21, .ref 67], (zS I22 J23 tg24))) rfl ?_
      refine Runs.sN 2 (c' := (58, [.ref 67, .int 0], [.int 0], (zS (up2 I22 67 12 v21) J23 tg24))) rfl ?_
      by_cases c44 : (0 : Int32) = 0
      · rw [if_pos c44] at h
        refine Runs.brT (P := (0 : Int32) = 0) (a := 109) (b := 61) (L := [.ref 67, .int 0]) (S := []) (z := (zS (up2 I22 67 12 v21) J23 tg24)) rfl c44 ?_
        subst h
        exact Runs.rt rfl
      · rw [if_neg c44] at h
        refine Runs.brF (P := (0 : Int32) = 0) (a := 109) (b := 61) (L := [.ref 67, .int 0]) (S := []) (z := (zS (up2 I22 67 12 v21) J23 tg24)) rfl c44 ?_
        refine Runs.sN 3 (c' := (67, [.ref 67, .int 0], [.int 9, .int v21], (zS (up2 I22 67 12 v21) J23 tg24))) rfl ?_
        by_cases c45 : v21 = 9
        · rw [if_pos c45] at h
          refine Runs.brT (P := v21 = 9) (a := 79) (b := 70) (L := [.ref 67, .int 0]) (S := []) (z := (zS (up2 I22 67 12 v21) J23 tg24)) rfl c45 ?_
          refine Runs.sN 4 (c' := (86, [.ref 67, .int 0], [.int 9, .int v21, .ref 67], (zS (up2 I22 67 12 v21) J23 tg24))) rfl ?_
          by_cases c46 : v21 = 9
          · rw [if_pos c46] at h
            refine Runs.brT (P := v21 = 9) (a := 89) (b := 94) (L := [.ref 67, .int 0]) (S := [.ref 67]) (z := (zS (up2 I22 67 12 v21) J23 tg24)) rfl c46 ?_
            refine Runs.sN 9 (c' := (109, [.ref 67, .int 0], [], (zS (up2 (up2 (up2 I22 67 12 v21) 67 12 10) 67 15 ((I22 67 15) + 1)) J23 tg24))) rfl ?_
            subst h
            exact Runs.rt rfl
          · rw [if_neg c46] at h
            refine Runs.brF (P := v21 = 9) (a := 89) (b := 94) (L := [.ref 67, .int 0]) (S := [.ref 67]) (z := (zS (up2 I22 67 12 v21) J23 tg24)) rfl c46 ?_
            refine Runs.sN 8 (c' := (109, [.ref 67, .int 0], [], (zS (up2 (up2 (up2 I22 67 12 v21) 67 12 12) 67 15 ((I22 67 15) + 1)) J23 tg24))) rfl ?_
            subst h
            exact Runs.rt rfl
        · rw [if_neg c45] at h
          refine Runs.brF (P := v21 = 9) (a := 79) (b := 70) (L := [.ref 67, .int 0]) (S := []) (z := (zS (up2 I22 67 12 v21) J23 tg24)) rfl c45 ?_
          refine Runs.sN 3 (c' := (76, [.ref 67, .int 0], [.int 11, .int v21], (zS (up2 I22 67 12 v21) J23 tg24))) rfl ?_
          by_cases c47 : v21 = 11
          · rw [if_pos c47] at h
            refine Runs.brT (P := v21 = 11) (a := 79) (b := 109) (L := [.ref 67, .int 0]) (S := []) (z := (zS (up2 I22 67 12 v21) J23 tg24)) rfl c47 ?_
            refine Runs.sN 4 (c' := (86, [.ref 67, .int 0], [.int 9, .int v21, .ref 67], (zS (up2 I22 67 12 v21) J23 tg24))) rfl ?_
            by_cases c48 : v21 = 9
            · rw [if_pos c48] at h
              refine Runs.brT (P := v21 = 9) (a := 89) (b := 94) (L := [.ref 67, .int 0]) (S := [.ref 67]) (z := (zS (up2 I22 67 12 v21) J23 tg24)) rfl c48 ?_
              refine Runs.sN 9 (c' := (109, [.ref 67, .int 0], [], (zS (up2 (up2 (up2 I22 67 12 v21) 67 12 10) 67 15 ((I22 67 15) + 1)) J23 tg24))) rfl ?_
              subst h
              exact Runs.rt rfl
            · rw [if_neg c48] at h
              refine Runs.brF (P := v21 = 9) (a := 89) (b := 94) (L := [.ref 67, .int 0]) (S := [.ref 67]) (z := (zS (up2 I22 67 12 v21) J23 tg24)) rfl c48 ?_
              refine Runs.sN 8 (c' := (109, [.ref 67, .int 0], [], (zS (up2 (up2 (up2 I22 67 12 v21) 67 12 12) 67 15 ((I22 67 15) + 1)) J23 tg24))) rfl ?_
              subst h
              exact Runs.rt rfl
          · rw [if_neg c47] at h
            refine Runs.brF (P := v21 = 11) (a := 79) (b := 109) (L := [.ref 67, .int 0]) (S := []) (z := (zS (up2 I22 67 12 v21) J23 tg24)) rfl c47 ?_
            subst h
            exact Runs.rt rfl
-- X8_startClause t47
theorem sg_80t47 {L d : Nat} {xs : Nat → Int32} (I : Nat → Nat → Int32) (J : Nat → Nat → Int64) (tg : Option Nat) {r : Option Value × SS} (h : ((if (I 67 12) = 0 then (r = (some (.int 0), (zS I J (some 47)))) else ((if (I 67 12) = 4 then (Runs (GW L xs) (d + 1) 80 (36, [.ref 67], [], (zS I J (some 47))) r) else ((if (I 67 12) = 5 then (Runs (GW L xs) (d + 1) 80 (36, [.ref 67], [], (zS I J (some 47))) r) else ((if (I 67 12) = 6 then (Runs (GW L xs) (d + 1) 80 (36, [.ref 67], [], (zS I J (some 47))) r) else (r = (some (.int 1), (zS I J (some 47))))))))))))) : Runs (GW L xs) (d + 1) 80 (0, [.ref 67], [], (zS I J (some 47))) r := by
  refine Runs.sN 2 (c' := (4, [.ref 67], [.int (I 67 12)], (zS I J (some 47)))) rfl ?_
  by_cases c16 : (I 67 12) = 0
  · rw [if_pos c16] at h
    refine Runs.brT (P := (I 67 12) = 0) (a := 7) (b := 9) (L := [.ref 67]) (S := []) (z := (zS I J (some 47))) rfl c16 ?_
    refine Runs.sN 1 (c' := (8, [.ref 67], [.int 0], (zS I J (some 47)))) rfl ?_
    subst h
    exact Runs.rt rfl
  · rw [if_neg c16] at h
    refine Runs.brF (P := (I 67 12) = 0) (a := 7) (b := 9) (L := [.ref 67]) (S := []) (z := (zS I J (some 47))) rfl c16 ?_
    refine Runs.sN 3 (c' := (14, [.ref 67], [.int 4, .int (I 67 12)], (zS I J (some 47)))) rfl ?_
    by_cases c17 : (I 67 12) = 4
    · rw [if_pos c17] at h
      refine Runs.brT (P := (I 67 12) = 4) (a := 36) (b := 17) (L := [.ref 67]) (S := []) (z := (zS I J (some 47))) rfl c17 ?_
      exact h
    · rw [if_neg c17] at h
      refine Runs.brF (P := (I 67 12) = 4) (a := 36) (b := 17) (L := [.ref 67]) (S := []) (z := (zS I J (some 47))) rfl c17 ?_
      refine Runs.sN 3 (c' := (22, [.ref 67], [.int 5, .int (I 67 12)], (zS I J (some 47)))) rfl ?_
      by_cases c18 : (I 67 12) = 5
      · rw [if_pos c18] at h
        refine Runs.brT (P := (I 67 12) = 5) (a := 36) (b := 25) (L := [.ref 67]) (S := []) (z := (zS I J (some 47))) rfl c18 ?_
        exact h
      · rw [if_neg c18] at h
        refine Runs.brF (P := (I 67 12) = 5) (a := 36) (b := 25) (L := [.ref 67]) (S := []) (z := (zS I J (some 47))) rfl c18 ?_
        refine Runs.sN 3 (c' := (31, [.ref 67], [.int 6, .int (I 67 12)], (zS I J (some 47)))) rfl ?_
        by_cases c19 : (I 67 12) = 6
        · rw [if_pos c19] at h
          refine Runs.brT (P := (I 67 12) = 6) (a := 36) (b := 34) (L := [.ref 67]) (S := []) (z := (zS I J (some 47))) rfl c19 ?_
          exact h
        · rw [if_neg c19] at h
          refine Runs.brF (P := (I 67 12) = 6) (a := 36) (b := 34) (L := [.ref 67]) (S := []) (z := (zS I J (some 47))) rfl c19 ?_
          refine Runs.sN 1 (c' := (35, [.ref 67], [.int 1], (zS I J (some 47)))) rfl ?_
          subst h
          exact Runs.rt rfl
theorem sg_80t47_36 {L d : Nat} {xs : Nat → Int32} (I : Nat → Nat → Int32) (J : Nat → Nat → Int64) (tg : Option Nat) {r : Option Value × SS} (h : ((if (I 67 12) = 6 then (∃ (v1 : Int32) (I2 : Nat → Nat → Int32) (J3 : Nat → Nat → Int64) (tg4 : Option Nat), Runs (GW L xs) d 28 (0, [.ref 47], [], (zS I J (some 47))) ((some (.int v1)), (zS I2 J3 tg4)) ∧ (if v1 = 0 then (Runs (GW L xs) (d + 1) 80 (57, [.ref 67], [], (zS I2 J3 tg4)) r) else (r = (some (.int 4), (zS I2 J3 tg4))))) else (Runs (GW L xs) (d + 1) 80 (57, [.ref 67], [], (zS I J (some 47))) r)))) : Runs (GW L xs) (d + 1) 80 (36, [.ref 67], [], (zS I J (some 47))) r := by
  refine Runs.sN 3 (c' := (42, [.ref 67], [.int 6, .int (I 67 12)], (zS I J (some 47)))) rfl ?_
  by_cases c5 : (I 67 12) = 6
  · rw [if_pos c5] at h
    refine Runs.brT (P := (I 67 12) = 6) (a := 45) (b := 57) (L := [.ref 67]) (S := []) (z := (zS I J (some 47))) rfl c5 ?_
    refine Runs.sN 2 (c' := (49, [.ref 67], [.ref 47], (zS I J (some 47)))) rfl ?_
    obtain ⟨v1, I2, J3, tg4, c6, h⟩ := h
    refine Runs.cl (cm := 28) (as := [.ref 47]) (rest := []) (r1 := ((some (.int v1)), (zS I2 J3 tg4))) rfl (Nat.le_of_ble_eq_true rfl) c6 ?_
    refine Runs.as (c' := (52, [.ref 67], [.int v1], (zS I2 J3 tg4))) rfl ?_
    by_cases c7 : v1 = 0
    · rw [if_pos c7] at h
      refine Runs.brT (P := v1 = 0) (a := 57) (b := 55) (L := [.ref 67]) (S := []) (z := (zS I2 J3 tg4)) rfl c7 ?_
      exact h
    · rw [if_neg c7] at h
      refine Runs.brF (P := v1 = 0) (a := 57) (b := 55) (L := [.ref 67]) (S := []) (z := (zS I2 J3 tg4)) rfl c7 ?_
      refine Runs.sN 1 (c' := (56, [.ref 67], [.int 4], (zS I2 J3 tg4))) rfl ?_
      subst h
      exact Runs.rt rfl
  · rw [if_neg c5] at h
    refine Runs.brF (P := (I 67 12) = 6) (a := 45) (b := 57) (L := [.ref 67]) (S := []) (z := (zS I J (some 47))) rfl c5 ?_
    exact h
theorem sg_80t47_57 {L d : Nat} {xs : Nat → Int32} (I : Nat → Nat → Int32) (J : Nat → Nat → Int64) (tg : Option Nat) {r : Option Value × SS} (h : (∃ (v1 : Int32) (I2 : Nat → Nat → Int32) (J3 : Nat → Nat → Int64) (tg4 : Option Nat), Runs (GW L xs) d 22 (0, [.ref 47], [], (zS I J (some 47))) ((some (.int v1)), (zS I2 J3 tg4)) ∧ (if v1 = 0 then (∃ (I5 : Nat → Nat → Int32) (J6 : Nat → Nat → Int64) (tg7 : Option Nat), Runs (GW L xs) d 23 (0, [.ref 47, .int (I2 67 12)], [], (zS I2 J3 tg4)) (none, (zS I5 J6 tg7)) ∧ (if (I5 67 12) = 6 then (r = (some (.int 0), (zS (up2 (up2 (up2 I5 67 7 1) 67 8 2) 67 7 2) J6 tg7))) else (r = (some (.int 0), (zS (up2 I5 67 7 1) J6 tg7))))) else (r = (some (.int 6), (zS I2 J3 tg4)))))) : Runs (GW L xs) (d + 1) 80 (57, [.ref 67], [], (zS I J (some 47))) r := by
  refine Runs.sN 2 (c' := (61, [.ref 67], [.ref 47], (zS I J (some 47)))) rfl ?_
  obtain ⟨v1, I2, J3, tg4, c8, h⟩ := h
  refine Runs.cl (cm := 22) (as := [.ref 47]) (rest := []) (r1 := ((some (.int v1)), (zS I2 J3 tg4))) rfl (Nat.le_of_ble_eq_true rfl) c8 ?_
  refine Runs.as (c' := (64, [.ref 67], [.int v1], (zS I2 J3 tg4))) rfl ?_
  by_cases c9 : v1 = 0
  · rw [if_pos c9] at h
    refine Runs.brT (P := v1 = 0) (a := 70) (b := 67) (L := [.ref 67]) (S := []) (z := (zS I2 J3 tg4)) rfl c9 ?_
    refine Runs.sN 4 (c' := (78, [.ref 67], [.int (I2 67 12), .ref 47], (zS I2 J3 tg4))) rfl ?_
    obtain ⟨I5, J6, tg7, c10, h⟩ := h
    refine Runs.cl (cm := 23) (as := [.ref 47, .int (I2 67 12)]) (rest := []) (r1 := (none, (zS I5 J6 tg7))) rfl (Nat.le_of_ble_eq_true rfl) c10 ?_
    refine Runs.as (c' := (81, [.ref 67], [], (zS I5 J6 tg7))) rfl ?_
    refine Runs.sN 6 (c' := (92, [.ref 67], [.int 6, .int (I5 67 12)], (zS (up2 I5 67 7 1) J6 tg7))) rfl ?_
    by_cases c11 : (I5 67 12) = 6
    · rw [if_pos c11] at h
      refine Runs.brT (P := (I5 67 12) = 6) (a := 95) (b := 105) (L := [.ref 67]) (S := []) (z := (zS (up2 I5 67 7 1) J6 tg7)) rfl c11 ?_
      refine Runs.sN 7 (c' := (106, [.ref 67], [.int 0], (zS (up2 (up2 (up2 I5 67 7 1) 67 8 2) 67 7 2) J6 tg7))) rfl ?_
      subst h
      exact Runs.rt rfl
    · rw [if_neg c11] at h
      refine Runs.brF (P := (I5 67 12) = 6) (a := 95) (b := 105) (L := [.ref 67]) (S := []) (z := (zS (up2 I5 67 7 1) J6 tg7)) rfl c11 ?_
      refine Runs.sN 1 (c' := (106, [.ref 67], [.int 0], (zS (up2 I5 67 7 1) J6 tg7))) rfl ?_
      subst h
      exact Runs.rt rfl
  · rw [if_neg c9] at h
    refine Runs.brF (P := v1 = 0) (a := 70) (b := 67) (L := [.ref 67]) (S := []) (z := (zS I2 J3 tg4)) rfl c9 ?_
    refine Runs.sN 1 (c' := (69, [.ref 67], [.int 6], (zS I2 J3 tg4))) rfl ?_
    subst h
    exact Runs.rt rfl
-- X8_startClause t51
theorem sg_80t51 {L d : Nat} {xs : Nat → Int32} (I : Nat → Nat → Int32) (J : Nat → Nat → Int64) (tg : Option Nat) {r : Option Value × SS} (h : ((if (I 67 12) = 0 then (r = (some (.int 0), (zS I J (some 51)))) else ((if (I 67 12) = 4 then (Runs (GW L xs) (d + 1) 80 (36, [.ref 67], [], (zS I J (some 51))) r) else ((if (I 67 12) = 5 then (Runs (GW L xs) (d + 1) 80 (36, [.ref 67], [], (zS I J (some 51))) r) else ((if (I 67 12) = 6 then (Runs (GW L xs) (d + 1) 80 (36, [.ref 67], [], (zS I J (some 51))) r) else (r = (some (.int 1), (zS I J (some 51))))))))))))) : Runs (GW L xs) (d + 1) 80 (0, [.ref 67], [], (zS I J (some 51))) r := by
  refine Runs.sN 2 (c' := (4, [.ref 67], [.int (I 67 12)], (zS I J (some 51)))) rfl ?_
  by_cases c16 : (I 67 12) = 0
  · rw [if_pos c16] at h
    refine Runs.brT (P := (I 67 12) = 0) (a := 7) (b := 9) (L := [.ref 67]) (S := []) (z := (zS I J (some 51))) rfl c16 ?_
    refine Runs.sN 1 (c' := (8, [.ref 67], [.int 0], (zS I J (some 51)))) rfl ?_
    subst h
    exact Runs.rt rfl
  · rw [if_neg c16] at h
    refine Runs.brF (P := (I 67 12) = 0) (a := 7) (b := 9) (L := [.ref 67]) (S := []) (z := (zS I J (some 51))) rfl c16 ?_
    refine Runs.sN 3 (c' := (14, [.ref 67], [.int 4, .int (I 67 12)], (zS I J (some 51)))) rfl ?_
    by_cases c17 : (I 67 12) = 4
    · rw [if_pos c17] at h
      refine Runs.brT (P := (I 67 12) = 4) (a := 36) (b := 17) (L := [.ref 67]) (S := []) (z := (zS I J (some 51))) rfl c17 ?_
      exact h
    · rw [if_neg c17] at h
      refine Runs.brF (P := (I 67 12) = 4) (a := 36) (b := 17) (L := [.ref 67]) (S := []) (z := (zS I J (some 51))) rfl c17 ?_
      refine Runs.sN 3 (c' := (22, [.ref 67], [.int 5, .int (I 67 12)], (zS I J (some 51)))) rfl ?_
      by_cases c18 : (I 67 12) = 5
      · rw [if_pos c18] at h
        refine Runs.brT (P := (I 67 12) = 5) (a := 36) (b := 25) (L := [.ref 67]) (S := []) (z := (zS I J (some 51))) rfl c18 ?_
        exact h
      · rw [if_neg c18] at h
        refine Runs.brF (P := (I 67 12) = 5) (a := 36) (b := 25) (L := [.ref 67]) (S := []) (z := (zS I J (some 51))) rfl c18 ?_
        refine Runs.sN 3 (c' := (31, [.ref 67], [.int 6, .int (I 67 12)], (zS I J (some 51)))) rfl ?_
        by_cases c19 : (I 67 12) = 6
        · rw [if_pos c19] at h
          refine Runs.brT (P := (I 67 12) = 6) (a := 36) (b := 34) (L := [.ref 67]) (S := []) (z := (zS I J (some 51))) rfl c19 ?_
          exact h
        · rw [if_neg c19] at h
          refine Runs.brF (P := (I 67 12) = 6) (a := 36) (b := 34) (L := [.ref 67]) (S := []) (z := (zS I J (some 51))) rfl c19 ?_
          refine Runs.sN 1 (c' := (35, [.ref 67], [.int 1], (zS I J (some 51)))) rfl ?_
          subst h
          exact Runs.rt rfl
theorem sg_80t51_36 {L d : Nat} {xs : Nat → Int32} (I : Nat → Nat → Int32) (J : Nat → Nat → Int64) (tg : Option Nat) {r : Option Value × SS} (h : ((if (I 67 12) = 6 then (∃ (v1 : Int32) (I2 : Nat → Nat → Int32) (J3 : Nat → Nat → Int64) (tg4 : Option Nat), Runs (GW L xs) d 28 (0, [.ref 51], [], (zS I J (some 51))) ((some (.int v1)), (zS I2 J3 tg4)) ∧ (if v1 = 0 then (Runs (GW L xs) (d + 1) 80 (57, [.ref 67], [], (zS I2 J3 tg4)) r) else (r = (some (.int 4), (zS I2 J3 tg4))))) else (Runs (GW L xs) (d + 1) 80 (57, [.ref 67], [], (zS I J (some 51))) r)))) : Runs (GW L xs) (d + 1) 80 (36, [.ref 67], [], (zS I J (some 51))) r := by
  refine Runs.sN 3 (c' := (42, [.ref 67], [.int 6, .int (I 67 12)], (zS I J (some 51)))) rfl ?_
  by_cases c5 : (I 67 12) = 6
  · rw [if_pos c5] at h
    refine Runs.brT (P := (I 67 12) = 6) (a := 45) (b := 57) (L := [.ref 67]) (S := []) (z := (zS I J (some 51))) rfl c5 ?_
    refine Runs.sN 2 (c' := (49, [.ref 67], [.ref 51], (zS I J (some 51)))) rfl ?_
    obtain ⟨v1, I2, J3, tg4, c6, h⟩ := h
    refine Runs.cl (cm := 28) (as := [.ref 51]) (rest := []) (r1 := ((some (.int v1)), (zS I2 J3 tg4))) rfl (Nat.le_of_ble_eq_true rfl) c6 ?_
    refine Runs.as (c' := (52, [.ref 67], [.int v1], (zS I2 J3 tg4))) rfl ?_
    by_cases c7 : v1 = 0
    · rw [if_pos c7] at h
      refine Runs.brT (P := v1 = 0) (a := 57) (b := 55) (L := [.ref 67]) (S := []) (z := (zS I2 J3 tg4)) rfl c7 ?_
      exact h
    · rw [if_neg c7] at h
      refine Runs.brF (P := v1 = 0) (a := 57) (b := 55) (L := [.ref 67]) (S := []) (z := (zS I2 J3 tg4)) rfl c7 ?_
      refine Runs.sN 1 (c' := (56, [.ref 67], [.int 4], (zS I2 J3 tg4))) rfl ?_
      subst h
      exact Runs.rt rfl
  · rw [if_neg c5] at h
    refine Runs.brF (P := (I 67 12) = 6) (a := 45) (b := 57) (L := [.ref 67]) (S := []) (z := (zS I J (some 51))) rfl c5 ?_
    exact h
theorem sg_80t51_57 {L d : Nat} {xs : Nat → Int32} (I : Nat → Nat → Int32) (J : Nat → Nat → Int64) (tg : Option Nat) {r : Option Value × SS} (h : (∃ (v1 : Int32) (I2 : Nat → Nat → Int32) (J3 : Nat → Nat → Int64) (tg4 : Option Nat), Runs (GW L xs) d 22 (0, [.ref 51], [], (zS I J (some 51))) ((some (.int v1)), (zS I2 J3 tg4)) ∧ (if v1 = 0 then (∃ (I5 : Nat → Nat → Int32) (J6 : Nat → Nat → Int64) (tg7 : Option Nat), Runs (GW L xs) d 23 (0, [.ref 51, .int (I2 67 12)], [], (zS I2 J3 tg4)) (none, (zS I5 J6 tg7)) ∧ (if (I5 67 12) = 6 then (r = (some (.int 0), (zS (up2 (up2 (up2 I5 67 7 1) 67 8 2) 67 7 2) J6 tg7))) else (r = (some (.int 0), (zS (up2 I5 67 7 1) J6 tg7))))) else (r = (some (.int 6), (zS I2 J3 tg4)))))) : Runs (GW L xs) (d + 1) 80 (57, [.ref 67], [], (zS I J (some 51))) r := by
  refine Runs.sN 2 (c' := (61, [.ref 67], [.ref 51], (zS I J (some 51)))) rfl ?_
  obtain ⟨v1, I2, J3, tg4, c8, h⟩ := h
  refine Runs.cl (cm := 22) (as := [.ref 51]) (rest := []) (r1 := ((some (.int v1)), (zS I2 J3 tg4))) rfl (Nat.le_of_ble_eq_true rfl) c8 ?_
  refine Runs.as (c' := (64, [.ref 67], [.int v1], (zS I2 J3 tg4))) rfl ?_
  by_cases c9 : v1 = 0
  · rw [if_pos c9] at h
    refine Runs.brT (P := v1 = 0) (a := 70) (b := 67) (L := [.ref 67]) (S := []) (z := (zS I2 J3 tg4)) rfl c9 ?_
    refine Runs.sN 4 (c' := (78, [.ref 67], [.int (I2 67 12), .ref 51], (zS I2 J3 tg4))) rfl ?_
    obtain ⟨I5, J6, tg7, c10, h⟩ := h
    refine Runs.cl (cm := 23) (as := [.ref 51, .int (I2 67 12)]) (rest := []) (r1 := (none, (zS I5 J6 tg7))) rfl (Nat.le_of_ble_eq_true rfl) c10 ?_
    refine Runs.as (c' := (81, [.ref 67], [], (zS I5 J6 tg7))) rfl ?_
    refine Runs.sN 6 (c' := (92, [.ref 67], [.int 6, .int (I5 67 12)], (zS (up2 I5 67 7 1) J6 tg7))) rfl ?_
    by_cases c11 : (I5 67 12) = 6
    · rw [if_pos c11] at h
      refine Runs.brT (P := (I5 67 12) = 6) (a := 95) (b := 105) (L := [.ref 67]) (S := []) (z := (zS (up2 I5 67 7 1) J6 tg7)) rfl c11 ?_
      refine Runs.sN 7 (c' := (106, [.ref 67], [.int 0], (zS (up2 (up2 (up2 I5 67 7 1) 67 8 2) 67 7 2) J6 tg7))) rfl ?_
      subst h
      exact Runs.rt rfl
    · rw [if_neg c11] at h
      refine Runs.brF (P := (I5 67 12) = 6) (a := 95) (b := 105) (L := [.ref 67]) (S := []) (z := (zS (up2 I5 67 7 1) J6 tg7)) rfl c11 ?_
      refine Runs.sN 1 (c' := (106, [.ref 67], [.int 0], (zS (up2 I5 67 7 1) J6 tg7))) rfl ?_
      subst h
      exact Runs.rt rfl
  · rw [if_neg c9] at h
    refine Runs.brF (P := v1 = 0) (a := 70) (b := 67) (L := [.ref 67]) (S := []) (z := (zS I2 J3 tg4)) rfl c9 ?_
    refine Runs.sN 1 (c' := (69, [.ref 67], [.int 6], (zS I2 J3 tg4))) rfl ?_
    subst h
    exact Runs.rt rfl
-- X8_startClause t55
theorem sg_80t55 {L d : Nat} {xs : Nat → Int32} (I : Nat → Nat → Int32) (J : Nat → Nat → Int64) (tg : Option Nat) {r : Option Value × SS} (h : ((if (I 67 12) = 0 then (r = (some (.int 0), (zS I J (some 55)))) else ((if (I 67 12) = 4 then (Runs (GW L xs) (d + 1) 80 (36, [.ref 67], [], (zS I J (some 55))) r) else ((if (I 67 12) = 5 then (Runs (GW L xs) (d + 1) 80 (36, [.ref 67], [], (zS I J (some 55))) r) else ((if (I 67 12) = 6 then (Runs (GW L xs) (d + 1) 80 (36, [.ref 67], [], (zS I J (some 55))) r) else (r = (some (.int 1), (zS I J (some 55))))))))))))) : Runs (GW L xs) (d + 1) 80 (0, [.ref 67], [], (zS I J (some 55))) r := by
  refine Runs.sN 2 (c' := (4, [.ref 67], [.int (I 67 12)], (zS I J (some 55)))) rfl ?_
  by_cases c16 : (I 67 12) = 0
  · rw [if_pos c16] at h
    refine Runs.brT (P := (I 67 12) = 0) (a := 7) (b := 9) (L := [.ref 67]) (S := []) (z := (zS I J (some 55))) rfl c16 ?_
    refine Runs.sN 1 (c' := (8, [.ref 67], [.int 0], (zS I J (some 55)))) rfl ?_
    subst h
    exact Runs.rt rfl
  · rw [if_neg c16] at h
    refine Runs.brF (P := (I 67 12) = 0) (a := 7) (b := 9) (L := [.ref 67]) (S := []) (z := (zS I J (some 55))) rfl c16 ?_
    refine Runs.sN 3 (c' := (14, [.ref 67], [.int 4, .int (I 67 12)], (zS I J (some 55)))) rfl ?_
    by_cases c17 : (I 67 12) = 4
    · rw [if_pos c17] at h
      refine Runs.brT (P := (I 67 12) = 4) (a := 36) (b := 17) (L := [.ref 67]) (S := []) (z := (zS I J (some 55))) rfl c17 ?_
      exact h
    · rw [if_neg c17] at h
      refine Runs.brF (P := (I 67 12) = 4) (a := 36) (b := 17) (L := [.ref 67]) (S := []) (z := (zS I J (some 55))) rfl c17 ?_
      refine Runs.sN 3 (c' := (22, [.ref 67], [.int 5, .int (I 67 12)], (zS I J (some 55)))) rfl ?_
      by_cases c18 : (I 67 12) = 5
      · rw [if_pos c18] at h
        refine Runs.brT (P := (I 67 12) = 5) (a := 36) (b := 25) (L := [.ref 67]) (S := []) (z := (zS I J (some 55))) rfl c18 ?_
        exact h
      · rw [if_neg c18] at h
        refine Runs.brF (P := (I 67 12) = 5) (a := 36) (b := 25) (L := [.ref 67]) (S := []) (z := (zS I J (some 55))) rfl c18 ?_
        refine Runs.sN 3 (c' := (31, [.ref 67], [.int 6, .int (I 67 12)], (zS I J (some 55)))) rfl ?_
        by_cases c19 : (I 67 12) = 6
        · rw [if_pos c19] at h
          refine Runs.brT (P := (I 67 12) = 6) (a := 36) (b := 34) (L := [.ref 67]) (S := []) (z := (zS I J (some 55))) rfl c19 ?_
          exact h
        · rw [if_neg c19] at h
          refine Runs.brF (P := (I 67 12) = 6) (a := 36) (b := 34) (L := [.ref 67]) (S := []) (z := (zS I J (some 55))) rfl c19 ?_
          refine Runs.sN 1 (c' := (35, [.ref 67], [.int 1], (zS I J (some 55)))) rfl ?_
          subst h
          exact Runs.rt rfl
theorem sg_80t55_36 {L d : Nat} {xs : Nat → Int32} (I : Nat → Nat → Int32) (J : Nat → Nat → Int64) (tg : Option Nat) {r : Option Value × SS} (h : ((if (I 67 12) = 6 then (∃ (v1 : Int32) (I2 : Nat → Nat → Int32) (J3 : Nat → Nat → Int64) (tg4 : Option Nat), Runs (GW L xs) d 28 (0, [.ref 55], [], (zS I J (some 55))) ((some (.int v1)), (zS I2 J3 tg4)) ∧ (if v1 = 0 then (Runs (GW L xs) (d + 1) 80 (57, [.ref 67], [], (zS I2 J3 tg4)) r) else (r = (some (.int 4), (zS I2 J3 tg4))))) else (Runs (GW L xs) (d + 1) 80 (57, [.ref 67], [], (zS I J (some 55))) r)))) : Runs (GW L xs) (d + 1) 80 (36, [.ref 67], [], (zS I J (some 55))) r := by
  refine Runs.sN 3 (c' := (42, [.ref 67], [.int 6, .int (I 67 12)], (zS I J (some 55)))) rfl ?_
  by_cases c5 : (I 67 12) = 6
  · rw [if_pos c5] at h
    refine Runs.brT (P := (I 67 12) = 6) (a := 45) (b := 57) (L := [.ref 67]) (S := []) (z := (zS I J (some 55))) rfl c5 ?_
    refine Runs.sN 2 (c' := (49, [.ref 67], [.ref 55], (zS I J (some 55)))) rfl ?_
    obtain ⟨v1, I2, J3, tg4, c6, h⟩ := h
    refine Runs.cl (cm := 28) (as := [.ref 55]) (rest := []) (r1 := ((some (.int v1)), (zS I2 J3 tg4))) rfl (Nat.le_of_ble_eq_true rfl) c6 ?_
    refine Runs.as (c' := (52, [.ref 67], [.int v1], (zS I2 J3 tg4))) rfl ?_
    by_cases c7 : v1 = 0
    · rw [if_pos c7] at h
      refine Runs.brT (P := v1 = 0) (a := 57) (b := 55) (L := [.ref 67]) (S := []) (z := (zS I2 J3 tg4)) rfl c7 ?_
      exact h
    · rw [if_neg c7] at h
      refine Runs.brF (P := v1 = 0) (a := 57) (b := 55) (L := [.ref 67]) (S := []) (z := (zS I2 J3 tg4)) rfl c7 ?_
      refine Runs.sN 1 (c' := (56, [.ref 67], [.int 4], (zS I2 J3 tg4))) rfl ?_
      subst h
      exact Runs.rt rfl
  · rw [if_neg c5] at h
    refine Runs.brF (P := (I 67 12) = 6) (a := 45) (b := 57) (L := [.ref 67]) (S := []) (z := (zS I J (some 55))) rfl c5 ?_
    exact h
theorem sg_80t55_57 {L d : Nat} {xs : Nat → Int32} (I : Nat → Nat → Int32) (J : Nat → Nat → Int64) (tg : Option Nat) {r : Option Value × SS} (h : (∃ (v1 : Int32) (I2 : Nat → Nat → Int32) (J3 : Nat → Nat → Int64) (tg4 : Option Nat), Runs (GW L xs) d 22 (0, [.ref 55], [], (zS I J (some 55))) ((some (.int v1)), (zS I2 J3 tg4)) ∧ (if v1 = 0 then (∃ (I5 : Nat → Nat → Int32) (J6 : Nat → Nat → Int64) (tg7 : Option Nat), Runs (GW L xs) d 23 (0, [.ref 55, .int (I2 67 12)], [], (zS I2 J3 tg4)) (none, (zS I5 J6 tg7)) ∧ (if (I5 67 12) = 6 then (r = (some (.int 0), (zS (up2 (up2 (up2 I5 67 7 1) 67 8 2) 67 7 2) J6 tg7))) else (r = (some (.int 0), (zS (up2 I5 67 7 1) J6 tg7))))) else (r = (some (.int 6), (zS I2 J3 tg4)))))) : Runs (GW L xs) (d + 1) 80 (57, [.ref 67], [], (zS I J (some 55))) r := by
  refine Runs.sN 2 (c' := (61, [.ref 67], [.ref 55], (zS I J (some 55)))) rfl ?_
  obtain ⟨v1, I2, J3, tg4, c8, h⟩ := h
  refine Runs.cl (cm := 22) (as := [.ref 55]) (rest := []) (r1 := ((some (.int v1)), (zS I2 J3 tg4))) rfl (Nat.le_of_ble_eq_true rfl) c8 ?_
  refine Runs.as (c' := (64, [.ref 67], [.int v1], (zS I2 J3 tg4))) rfl ?_
  by_cases c9 : v1 = 0
  · rw [if_pos c9] at h
    refine Runs.brT (P := v1 = 0) (a := 70) (b := 67) (L := [.ref 67]) (S := []) (z := (zS I2 J3 tg4)) rfl c9 ?_
    refine Runs.sN 4 (c' := (78, [.ref 67], [.int (I2 67 12), .ref 55], (zS I2 J3 tg4))) rfl ?_
    obtain ⟨I5, J6, tg7, c10, h⟩ := h
    refine Runs.cl (cm := 23) (as := [.ref 55, .int (I2 67 12)]) (rest := []) (r1 := (none, (zS I5 J6 tg7))) rfl (Nat.le_of_ble_eq_true rfl) c10 ?_
    refine Runs.as (c' := (81, [.ref 67], [], (zS I5 J6 tg7))) rfl ?_
    refine Runs.sN 6 (c' := (92, [.ref 67], [.int 6, .int (I5 67 12)], (zS (up2 I5 67 7 1) J6 tg7))) rfl ?_
    by_cases c11 : (I5 67 12) = 6
    · rw [if_pos c11] at h
      refine Runs.brT (P := (I5 67 12) = 6) (a := 95) (b := 105) (L := [.ref 67]) (S := []) (z := (zS (up2 I5 67 7 1) J6 tg7)) rfl c11 ?_
      refine Runs.sN 7 (c' := (106, [.ref 67], [.int 0], (zS (up2 (up2 (up2 I5 67 7 1) 67 8 2) 67 7 2) J6 tg7))) rfl ?_
      subst h
      exact Runs.rt rfl
    · rw [if_neg c11] at h
      refine Runs.brF (P := (I5 67 12) = 6) (a := 95) (b := 105) (L := [.ref 67]) (S := []) (z := (zS (up2 I5 67 7 1) J6 tg7)) rfl c11 ?_
      refine Runs.sN 1 (c' := (106, [.ref 67], [.int 0], (zS (up2 I5 67 7 1) J6 tg7))) rfl ?_
      subst h
      exact Runs.rt rfl
  · rw [if_neg c9] at h
    refine Runs.brF (P := v1 = 0) (a := 70) (b := 67) (L := [.ref 67]) (S := []) (z := (zS I2 J3 tg4)) rfl c9 ?_
    refine Runs.sN 1 (c' := (69, [.ref 67], [.int 6], (zS I2 J3 tg4))) rfl ?_
    subst h
    exact Runs.rt rfl
-- X8_startClause t59
theorem sg_80t59 {L d : Nat} {xs : Nat → Int32} (I : Nat → Nat → Int32) (J : Nat → Nat → Int64) (tg : Option Nat) {r : Option Value × SS} (h : ((if (I 67 12) = 0 then (r = (some (.int 0), (zS I J (some 59)))) else ((if (I 67 12) = 4 then (Runs (GW L xs) (d + 1) 80 (36, [.ref 67], [], (zS I J (some 59))) r) else ((if (I 67 12) = 5 then (Runs (GW L xs) (d + 1) 80 (36, [.ref 67], [], (zS I J (some 59))) r) else ((if (I 67 12) = 6 then (Runs (GW L xs) (d + 1) 80 (36, [.ref 67], [], (zS I J (some 59))) r) else (r = (some (.int 1), (zS I J (some 59))))))))))))) : Runs (GW L xs) (d + 1) 80 (0, [.ref 67], [], (zS I J (some 59))) r := by
  refine Runs.sN 2 (c' := (4, [.ref 67], [.int (I 67 12)], (zS I J (some 59)))) rfl ?_
  by_cases c16 : (I 67 12) = 0
  · rw [if_pos c16] at h
    refine Runs.brT (P := (I 67 12) = 0) (a := 7) (b := 9) (L := [.ref 67]) (S := []) (z := (zS I J (some 59))) rfl c16 ?_
    refine Runs.sN 1 (c' := (8, [.ref 67], [.int 0], (zS I J (some 59)))) rfl ?_
    subst h
    exact Runs.rt rfl
  · rw [if_neg c16] at h
    refine Runs.brF (P := (I 67 12) = 0) (a := 7) (b := 9) (L := [.ref 67]) (S := []) (z := (zS I J (some 59))) rfl c16 ?_
    refine Runs.sN 3 (c' := (14, [.ref 67], [.int 4, .int (I 67 12)], (zS I J (some 59)))) rfl ?_
    by_cases c17 : (I 67 12) = 4
    · rw [if_pos c17] at h
      refine Runs.brT (P := (I 67 12) = 4) (a := 36) (b := 17) (L := [.ref 67]) (S := []) (z := (zS I J (some 59))) rfl c17 ?_
      exact h
    · rw [if_neg c17] at h
      refine Runs.brF (P := (I 67 12) = 4) (a := 36) (b := 17) (L := [.ref 67]) (S := []) (z := (zS I J (some 59))) rfl c17 ?_
      refine Runs.sN 3 (c' := (22, [.ref 67], [.int 5, .int (I 67 12)], (zS I J (some 59)))) rfl ?_
      by_cases c18 : (I 67 12) = 5
      · rw [if_pos c18] at h
        refine Runs.brT (P := (I 67 12) = 5) (a := 36) (b := 25) (L := [.ref 67]) (S := []) (z := (zS I J (some 59))) rfl c18 ?_
        exact h
      · rw [if_neg c18] at h
        refine Runs.brF (P := (I 67 12) = 5) (a := 36) (b := 25) (L := [.ref 67]) (S := []) (z := (zS I J (some 59))) rfl c18 ?_
        refine Runs.sN 3 (c' := (31, [.ref 67], [.int 6, .int (I 67 12)], (zS I J (some 59)))) rfl ?_
        by_cases c19 : (I 67 12) = 6
        · rw [if_pos c19] at h
          refine Runs.brT (P := (I 67 12) = 6) (a := 36) (b := 34) (L := [.ref 67]) (S := []) (z := (zS I J (some 59))) rfl c19 ?_
          exact h
        · rw [if_neg c19] at h
          refine Runs.brF (P := (I 67 12) = 6) (a := 36) (b := 34) (L := [.ref 67]) (S := []) (z := (zS I J (some 59))) rfl c19 ?_
          refine Runs.sN 1 (c' := (35, [.ref 67], [.int 1], (zS I J (some 59)))) rfl ?_
          subst h
          exact Runs.rt rfl
theorem sg_80t59_36 {L d : Nat} {xs : Nat → Int32} (I : Nat → Nat → Int32) (J : Nat → Nat → Int64) (tg : Option Nat) {r : Option Value × SS} (h : ((if (I 67 12) = 6 then (∃ (v1 : Int32) (I2 : Nat → Nat → Int32) (J3 : Nat → Nat → Int64) (tg4 : Option Nat), Runs (GW L xs) d 28 (0, [.ref 59], [], (zS I J (some 59))) ((some (.int v1)), (zS I2 J3 tg4)) ∧ (if v1 = 0 then (Runs (GW L xs) (d + 1) 80 (57, [.ref 67], [], (zS I2 J3 tg4)) r) else (r = (some (.int 4), (zS I2 J3 tg4))))) else (Runs (GW L xs) (d + 1) 80 (57, [.ref 67], [], (zS I J (some 59))) r)))) : Runs (GW L xs) (d + 1) 80 (36, [.ref 67], [], (zS I J (some 59))) r := by
  refine Runs.sN 3 (c' := (42, [.ref 67], [.int 6, .int (I 67 12)], (zS I J (some 59)))) rfl ?_
  by_cases c5 : (I 67 12) = 6
  · rw [if_pos c5] at h
    refine Runs.brT (P := (I 67 12) = 6) (a := 45) (b := 57) (L := [.ref 67]) (S := []) (z := (zS I J (some 59))) rfl c5 ?_
    refine Runs.sN 2 (c' := (49, [.ref 67], [.ref 59], (zS I J (some 59)))) rfl ?_
    obtain ⟨v1, I2, J3, tg4, c6, h⟩ := h
    refine Runs.cl (cm := 28) (as := [.ref 59]) (rest := []) (r1 := ((some (.int v1)), (zS I2 J3 tg4))) rfl (Nat.le_of_ble_eq_true rfl) c6 ?_
    refine Runs.as (c' := (52, [.ref 67], [.int v1], (zS I2 J3 tg4))) rfl ?_
    by_cases c7 : v1 = 0
    · rw [if_pos c7] at h
      refine Runs.brT (P := v1 = 0) (a := 57) (b := 55) (L := [.ref 67]) (S := []) (z := (zS I2 J3 tg4)) rfl c7 ?_
      exact h
    · rw [if_neg c7] at h
      refine Runs.brF (P := v1 = 0) (a := 57) (b := 55) (L := [.ref 67]) (S := []) (z := (zS I2 J3 tg4)) rfl c7 ?_
      refine Runs.sN 1 (c' := (56, [.ref 67], [.int 4], (zS I2 J3 tg4))) rfl ?_
      subst h
      exact Runs.rt rfl
  · rw [if_neg c5] at h
    refine Runs.brF (P := (I 67 12) = 6) (a := 45) (b := 57) (L := [.ref 67]) (S := []) (z := (zS I J (some 59))) rfl c5 ?_
    exact h
theorem sg_80t59_57 {L d : Nat} {xs : Nat → Int32} (I : Nat → Nat → Int32) (J : Nat → Nat → Int64) (tg : Option Nat) {r : Option Value × SS} (h : (∃ (v1 : Int32) (I2 : Nat → Nat → Int32) (J3 : Nat → Nat → Int64) (tg4 : Option Nat), Runs (GW L xs) d 22 (0, [.ref 59], [], (zS I J (some 59))) ((some (.int v1)), (zS I2 J3 tg4)) ∧ (if v1 = 0 then (∃ (I5 : Nat → Nat → Int32) (J6 : Nat → Nat → Int64) (tg7 : Option Nat), Runs (GW L xs) d 23 (0, [.ref 59, .int (I2 67 12)], [], (zS I2 J3 tg4)) (none, (zS I5 J6 tg7)) ∧ (if (I5 67 12) = 6 then (r = (some (.int 0), (zS (up2 (up2 (up2 I5 67 7 1) 67 8 2) 67 7 2) J6 tg7))) else (r = (some (.int 0), (zS (up2 I5 67 7 1) J6 tg7))))) else (r = (some (.int 6), (zS I2 J3 tg4)))))) : Runs (GW L xs) (d + 1) 80 (57, [.ref 67], [], (zS I J (some 59))) r := by
  refine Runs.sN 2 (c' := (61, [.ref 67], [.ref 59], (zS I J (some 59)))) rfl ?_
  obtain ⟨v1, I2, J3, tg4, c8, h⟩ := h
  refine Runs.cl (cm := 22) (as := [.ref 59]) (rest := []) (r1 := ((some (.int v1)), (zS I2 J3 tg4))) rfl (Nat.le_of_ble_eq_true rfl) c8 ?_
  refine Runs.as (c' := (64, [.ref 67], [.int v1], (zS I2 J3 tg4))) rfl ?_
  by_cases c9 : v1 = 0
  · rw [if_pos c9] at h
    refine Runs.brT (P := v1 = 0) (a := 70) (b := 67) (L := [.ref 67]) (S := []) (z := (zS I2 J3 tg4)) rfl c9 ?_
    refine Runs.sN 4 (c' := (78, [.ref 67], [.int (I2 67 12), .ref 59], (zS I2 J3 tg4))) rfl ?_
    obtain ⟨I5, J6, tg7, c10, h⟩ := h
    refine Runs.cl (cm := 23) (as := [.ref 59, .int (I2 67 12)]) (rest := []) (r1 := (none, (zS I5 J6 tg7))) rfl (Nat.le_of_ble_eq_true rfl) c10 ?_
    refine Runs.as (c' := (81, [.ref 67], [], (zS I5 J6 tg7))) rfl ?_
    refine Runs.sN 6 (c' := (92, [.ref 67], [.int 6, .int (I5 67 12)], (zS (up2 I5 67 7 1) J6 tg7))) rfl ?_
    by_cases c11 : (I5 67 12) = 6
    · rw [if_pos c11] at h
      refine Runs.brT (P := (I5 67 12) = 6) (a := 95) (b := 105) (L := [.ref 67]) (S := []) (z := (zS (up2 I5 67 7 1) J6 tg7)) rfl c11 ?_
      refine Runs.sN 7 (c' := (106, [.ref 67], [.int 0], (zS (up2 (up2 (up2 I5 67 7 1) 67 8 2) 67 7 2) J6 tg7))) rfl ?_
      subst h
      exact Runs.rt rfl
    · rw [if_neg c11] at h
      refine Runs.brF (P := (I5 67 12) = 6) (a := 95) (b := 105) (L := [.ref 67]) (S := []) (z := (zS (up2 I5 67 7 1) J6 tg7)) rfl c11 ?_
      refine Runs.sN 1 (c' := (106, [.ref 67], [.int 0], (zS (up2 I5 67 7 1) J6 tg7))) rfl ?_
      subst h
      exact Runs.rt rfl
  · rw [if_neg c9] at h
    refine Runs.brF (P := v1 = 0) (a := 70) (b := 67) (L := [.ref 67]) (S := []) (z := (zS I2 J3 tg4)) rfl c9 ?_
    refine Runs.sN 1 (c' := (69, [.ref 67], [.int 6], (zS I2 J3 tg4))) rfl ?_
    subst h
    exact Runs.rt rfl
-- X8_startAsk 
theorem sg_81 {L d : Nat} {xs : Nat → Int32} (I : Nat → Nat → Int32) (J : Nat → Nat → Int64) (tg : Option Nat) {r : Option Value × SS} (h : ((if (I 67 12) = 18 then ((if ((I 67 10) + (I 67 11)) < 8 then (∃ (I8 : Nat → Nat → Int32) (J9 : Nat → Nat → Int64) (tg10 : Option Nat), Runs (GW L xs) d 87 (0, [.ref 67, .int 18], [], (zS (up2 I 67 10 ((I 67 10) + 1)) J tg)) (none, (zS I8 J9 tg10)) ∧ r = (some (.int 0), (zS I8 J9 tg10))) else (r = (some (.int 3), (zS I J tg))))) else (∃ (v11 : Int32) (I12 : Nat → Nat → Int32) (J13 : Nat → Nat → Int64) (tg14 : Option Nat), Runs (GW L xs) d 82 (0, [.ref 67], [], (zS (up2 I 67 8 0) J tg)) ((some (.int v11)), (zS I12 J13 tg14)) ∧ r = (some (.int v11), (zS I12 J13 tg14)))))) : Runs (GW L xs) (d + 1) 81 (0, [.ref 67], [], (zS I J tg)) r := by
  refine Runs.sN 3 (c' := (6, [.ref 67], [.int 18, .int (I 67 12)], (zS I J tg))) rfl ?_
  by_cases c15 : (I 67 12) = 18
  · rw [if_pos c15] at h
    refine Runs.brT (P := (I 67 12) = 18) (a := 19) (b := 9) (L := [.ref 67]) (S := []) (z := (zS I J tg)) rfl c15 ?_
    refine Runs.sN 6 (c' := (30, [.ref 67], [.int 8, .int ((I 67 10) + (I 67 11))], (zS I J tg))) rfl ?_
    by_cases c16 : ((I 67 10) + (I 67 11)) < 8
    · rw [if_pos c16] at h
      refine Runs.brT (P := ((I 67 10) + (I 67 11)) < 8) (a := 35) (b := 33) (L := [.ref 67]) (S := []) (z := (zS I J tg)) rfl c16 ?_
      refine Runs.sN 8 (c' := (48, [.ref 67], [.int 18, .ref 67], (zS (up2 I 67 10 ((I 67 10) + 1)) J tg))) rfl ?_
      obtain ⟨I8, J9, tg10, c17, h⟩ := h
      refine Runs.cl (cm := 87) (as := [.ref 67, .int 18]) (rest := []) (r1 := (none, (zS I8 J9 tg10))) rfl (Nat.le_of_ble_eq_true rfl) c17 ?_
      refine Runs.as (c' := (51, [.ref 67], [], (zS I8 J9 tg10))) rfl ?_
      refine Runs.sN 1 (c' := (52, [.ref 67], [.int 0], (zS I8 J9 tg10))) rfl ?_
      subst h
      exact Runs.rt rfl
    · rw [if_neg c16] at h
      refine Runs.brF (P := ((I 67 10) + (I 67 11)) < 8) (a := 35) (b := 33) (L := [.ref 67]) (S := []) (z := (zS I J tg)) rfl c16 ?_
      refine Runs.sN 1 (c' := (34, [.ref 67], [.int 3], (zS I J tg))) rfl ?_
      subst h
      exact Runs.rt rfl
  · rw [if_neg c15] at h
    refine Runs.brF (P := (I 67 12) = 18) (a := 19) (b := 9) (L := [.ref 67]) (S := []) (z := (zS I J tg)) rfl c15 ?_
    refine Runs.sN 4 (c' := (15, [.ref 67], [.ref 67], (zS (up2 I 67 8 0) J tg))) rfl ?_
    obtain ⟨v11, I12, J13, tg14, c18, h⟩ := h
    refine Runs.cl (cm := 82) (as := [.ref 67]) (rest := []) (r1 := ((some (.int v11)), (zS I12 J13 tg14))) rfl (Nat.le_of_ble_eq_true rfl) c18 ?_
    refine Runs.as (c' := (18, [.ref 67], [.int v11], (zS I12 J13 tg14))) rfl ?_
    subst h
    exact Runs.rt rfl
-- X8_startOne t47
theorem sg_82t47 {L d : Nat} {xs : Nat → Int32} (I : Nat → Nat → Int32) (J : Nat → Nat → Int64) (tg : Option Nat) {r : Option Value × SS} (h : ((if (I 67 12) = 2 then ((if (I 67 13) ≤ 9999 then (∃ (I30 : Nat → Nat → Int32) (J31 : Nat → Nat → Int64) (tg32 : Option Nat), Runs (GW L xs) d 25 (0, [.ref 47, .int (I 67 13)], [], (zS I J (some 47))) (none, (zS I30 J31 tg32)) ∧ Runs (GW L xs) (d + 1) 82 (84, [.ref 67], [], (zS I30 J31 tg32)) r) else (r = (some (.int 2), (zS I J (some 47)))))) else ((if (I 67 12) = 3 then ((if (I 67 13) < 8 then (∃ (I33 : Nat → Nat → Int32) (J34 : Nat → Nat → Int64) (tg35 : Option Nat), Runs (GW L xs) d 25 (0, [.ref 47, .int (10000 + (I 67 13))], [], (zS I J (some 47))) (none, (zS I33 J34 tg35)) ∧ Runs (GW L xs) (d + 1) 82 (84, [.ref 67], [], (zS I33 J34 tg35)) r) else ((if (I 67 8) = 2 then (∃ (I36 : Nat → Nat → Int32) (J37 : Nat → Nat → Int64) (tg38 : Option Nat), Runs (GW L xs) d 25 (0, [.ref 47, .int (10000 + (I 67 13))], [], (zS I J (some 47))) (none, (zS I36 J37 tg38)) ∧ Runs (GW L xs) (d + 1) 82 (84, [.ref 67], [], (zS I36 J37 tg38)) r) else (r = (some (.int 5), (zS I J (some 47)))))))) else (∃ (v39 : Int32) (I40 : Nat → Nat → Int32) (J41 : Nat → Nat → Int64) (tg42 : Option Nat), Runs (GW L xs) d 83 (0, [.ref 67], [], (zS I J (some 47))) ((some (.int v39)), (zS I40 J41 tg42)) ∧ r = (some (.int v39), (zS I40 J41 tg42)))))))) : Runs (GW L xs) (d + 1) 82 (0, [.ref 67], [], (zS I J (some 47))) r := by
  refine Runs.sN 3 (c' := (5, [.ref 67], [.int 2, .int (I 67 12)], (zS I J (some 47)))) rfl ?_
  by_cases c43 : (I 67 12) = 2
  · rw [if_pos c43] at h
    refine Runs.brT (P := (I 67 12) = 2) (a := 8) (b := 34) (L := [.ref 67]) (S := []) (z := (zS I J (some 47))) rfl c43 ?_
    refine Runs.sN 3 (c' := (15, [.ref 67], [.int 9999, .int (I 67 13)], (zS I J (some 47)))) rfl ?_
    by_cases c44 : (I 67 13) ≤ 9999
    · rw [if_pos c44] at h
      refine Runs.brT (P := (I 67 13) ≤ 9999) (a := 20) (b := 18) (L := [.ref 67]) (S := []) (z := (zS I J (some 47))) rfl c44 ?_
      refine Runs.sN 4 (c' := (28, [.ref 67], [.int (I 67 13), .ref 47], (zS I J (some 47)))) rfl ?_
      obtain ⟨I30, J31, tg32, c45, h⟩ := h
      refine Runs.cl (cm := 25) (as := [.ref 47, .int (I 67 13)]) (rest := []) (r1 := (none, (zS I30 J31 tg32))) rfl (Nat.le_of_ble_eq_true rfl) c45 ?_
      refine Runs.as (c' := (31, [.ref 67], [], (zS I30 J31 tg32))) rfl ?_
      refine Runs.sN 1 (c' := (84, [.ref 67], [], (zS I30 J31 tg32))) rfl ?_
      exact h
    · rw [if_neg c44] at h
      refine Runs.brF (P := (I 67 13) ≤ 9999) (a := 20) (b := 18) (L := [.ref 67]) (S := []) (z := (zS I J (some 47))) rfl c44 ?_
      refine Runs.sN 1 (c' := (19, [.ref 67], [.int 2], (zS I J (some 47)))) rfl ?_
      subst h
      exact Runs.rt rfl
  · rw [if_neg c43] at h
    refine Runs.brF (P := (I 67 12) = 2) (a := 8) (b := 34) (L := [.ref 67]) (S := []) (z := (zS I J (some 47))) rfl c43 ?_
    refine Runs.sN 3 (c' := (39, [.ref 67], [.int 3, .int (I 67 12)], (zS I J (some 47)))) rfl ?_
    by_cases c46 : (I 67 12) = 3
    · rw [if_pos c46] at h
      refine Runs.brT (P := (I 67 12) = 3) (a := 42) (b := 79) (L := [.ref 67]) (S := []) (z := (zS I J (some 47))) rfl c46 ?_
      refine Runs.sN 3 (c' := (48, [.ref 67], [.int 8, .int (I 67 13)], (zS I J (some 47)))) rfl ?_
      by_cases c47 : (I 67 13) < 8
      · rw [if_pos c47] at h
        refine Runs.brT (P := (I 67 13) < 8) (a := 61) (b := 51) (L := [.ref 67]) (S := []) (z := (zS I J (some 47))) rfl c47 ?_
        refine Runs.sN 6 (c' := (73, [.ref 67], [.int (10000 + (I 67 13)), .ref 47], (zS I J (some 47)))) rfl ?_
        obtain ⟨I33, J34, tg35, c48, h⟩ := h
        refine Runs.cl (cm := 25) (as := [.ref 47, .int (10000 + (I 67 13))]) (rest := []) (r1 := (none, (zS I33 J34 tg35))) rfl (Nat.le_of_ble_eq_true rfl) c48 ?_
        refine Runs.as (c' := (76, [.ref 67], [], (zS I33 J34 tg35))) rfl ?_
        refine Runs.sN 1 (c' := (84, [.ref 67], [], (zS I33 J34 tg35))) rfl ?_
        exact h
      · rw [if_neg c47] at h
        refine Runs.brF (P := (I 67 13) < 8) (a := 61) (b := 51) (L := [.ref 67]) (S := []) (z := (zS I J (some 47))) rfl c47 ?_
        refine Runs.sN 3 (c' := (56, [.ref 67], [.int 2, .int (I 67 8)], (zS I J (some 47)))) rfl ?_
        by_cases c49 : (I 67 8) = 2
        · rw [if_pos c49] at h
          refine Runs.brT (P := (I 67 8) = 2) (a := 61) (b := 59) (L := [.ref 67]) (S := []) (z := (zS I J (some 47))) rfl c49 ?_
          refine Runs.sN 6 (c' := (73, [.ref 67], [.int (10000 + (I 67 13)), .ref 47], (zS I J (some 47)))) rfl ?_
          obtain ⟨I36, J37, tg38, c50, h⟩ := h
          refine Runs.cl (cm := 25) (as := [.ref 47, .int (10000 + (I 67 13))]) (rest := []) (r1 := (none, (zS I36 J37 tg38))) rfl (Nat.le_of_ble_eq_true rfl) c50 ?_
          refine Runs.as (c' := (76, [.ref 67], [], (zS I36 J37 tg38))) rfl ?_
          refine Runs.sN 1 (c' := (84, [.ref 67], [], (zS I36 J37 tg38))) rfl ?_
          exact h
        · rw [if_neg c49] at h
          refine Runs.brF (P := (I 67 8) = 2) (a := 61) (b := 59) (L := [.ref 67]) (S := []) (z := (zS I J (some 47))) rfl c49 ?_
          refine Runs.sN 1 (c' := (60, [.ref 67], [.int 5], (zS I J (some 47)))) rfl ?_
          subst h
          exact Runs.rt rfl
    · rw [if_neg c46] at h
      refine Runs.brF (P := (I 67 12) = 3) (a := 42) (b := 79) (L := [.ref 67]) (S := []) (z := (zS I J (some 47))) rfl c46 ?_
      refine Runs.sN 1 (c' := (80, [.ref 67], [.ref 67], (zS I J (some 47)))) rfl ?_
      obtain ⟨v39, I40, J41, tg42, c51, h⟩ := h
      refine Runs.cl (cm := 83) (as := [.ref 67]) (rest := []) (r1 := ((some (.int v39)), (zS I40 J41 tg42))) rfl (Nat.le_of_ble_eq_true rfl) c51 ?_
      refine Runs.as (c' := (83, [.ref 67], [.int v39], (zS I40 J41 tg42))) rfl ?_
      subst h
      exact Runs.rt rfl
theorem sg_82t47_84 {L d : Nat} {xs : Nat → Int32} (I : Nat → Nat → Int32) (J : Nat → Nat → Int64) (tg : Option Nat) {r : Option Value × SS} (h : ((if (I 67 11) ≤ 0 then (r = (some (.int 0), (zS (up2 I 67 7 3) J (some 47)))) else (∃ (I1 : Nat → Nat → Int32) (J2 : Nat → Nat → Int64) (tg3 : Option Nat), Runs (GW L xs) d 25 (0, [.ref 47, .int 20021], [], (zS I J (some 47))) (none, (zS I1 J2 tg3)) ∧ Runs (GW L xs) (d + 1) 82 (84, [.ref 67], [], (zS (up2 I1 67 11 ((I1 67 11) - 1)) J2 tg3)) r)))) : Runs (GW L xs) (d + 1) 82 (84, [.ref 67], [], (zS I J (some 47))) r := by
  refine Runs.sN 2 (c' := (88, [.ref 67], [.int (I 67 11)], (zS I J (some 47)))) rfl ?_
  by_cases c4 : (I 67 11) ≤ 0
  · rw [if_pos c4] at h
    refine Runs.brT (P := (I 67 11) ≤ 0) (a := 114) (b := 91) (L := [.ref 67]) (S := []) (z := (zS I J (some 47))) rfl c4 ?_
    refine Runs.sN 4 (c' := (120, [.ref 67], [.int 0], (zS (up2 I 67 7 3) J (some 47)))) rfl ?_
    subst h
    exact Runs.rt rfl
  · rw [if_neg c4] at h
    refine Runs.brF (P := (I 67 11) ≤ 0) (a := 114) (b := 91) (L := [.ref 67]) (S := []) (z := (zS I J (some 47))) rfl c4 ?_
    refine Runs.sN 3 (c' := (98, [.ref 67], [.int 20021, .ref 47], (zS I J (some 47)))) rfl ?_
    obtain ⟨I1, J2, tg3, c5, h⟩ := h
    refine Runs.cl (cm := 25) (as := [.ref 47, .int 20021]) (rest := []) (r1 := (none, (zS I1 J2 tg3))) rfl (Nat.le_of_ble_eq_true rfl) c5 ?_
    refine Runs.as (c' := (101, [.ref 67], [], (zS I1 J2 tg3))) rfl ?_
    refine Runs.sN 7 (c' := (84, [.ref 67], [], (zS (up2 I1 67 11 ((I1 67 11) - 1)) J2 tg3))) rfl ?_
    exact h
-- X8_startOne t51
theorem sg_82t51 {L d : Nat} {xs : Nat → Int32} (I : Nat → Nat → Int32) (J : Nat → Nat → Int64) (tg : Option Nat) {r : Option Value × SS} (h : ((if (I 67 12) = 2 then ((if (I 67 13) ≤ 9999 then (∃ (I30 : Nat → Nat → Int32) (J31 : Nat → Nat → Int64) (tg32 : Option Nat), Runs (GW L xs) d 25 (0, [.ref 51, .int (I 67 13)], [], (zS I J (some 51))) (none, (zS I30 J31 tg32)) ∧ Runs (GW L xs) (d + 1) 82 (84, [.ref 67], [], (zS I30 J31 tg32)) r) else (r = (some (.int 2), (zS I J (some 51)))))) else ((if (I 67 12) = 3 then ((if (I 67 13) < 8 then (∃ (I33 : Nat → Nat → Int32) (J34 : Nat → Nat → Int64) (tg35 : Option Nat), Runs (GW L xs) d 25 (0, [.ref 51, .int (10000 + (I 67 13))], [], (zS I J (some 51))) (none, (zS I33 J34 tg35)) ∧ Runs (GW L xs) (d + 1) 82 (84, [.ref 67], [], (zS I33 J34 tg35)) r) else ((if (I 67 8) = 2 then (∃ (I36 : Nat → Nat → Int32) (J37 : Nat → Nat → Int64) (tg38 : Option Nat), Runs (GW L xs) d 25 (0, [.ref 51, .int (10000 + (I 67 13))], [], (zS I J (some 51))) (none, (zS I36 J37 tg38)) ∧ Runs (GW L xs) (d + 1) 82 (84, [.ref 67], [], (zS I36 J37 tg38)) r) else (r = (some (.int 5), (zS I J (some 51)))))))) else (∃ (v39 : Int32) (I40 : Nat → Nat → Int32) (J41 : Nat → Nat → Int64) (tg42 : Option Nat), Runs (GW L xs) d 83 (0, [.ref 67], [], (zS I J (some 51))) ((some (.int v39)), (zS I40 J41 tg42)) ∧ r = (some (.int v39), (zS I40 J41 tg42)))))))) : Runs (GW L xs) (d + 1) 82 (0, [.ref 67], [], (zS I J (some 51))) r := by
  refine Runs.sN 3 (c' := (5, [.ref 67], [.int 2, .int (I 67 12)], (zS I J (some 51)))) rfl ?_
  by_cases c43 : (I 67 12) = 2
  · rw [if_pos c43] at h
    refine Runs.brT (P := (I 67 12) = 2) (a := 8) (b := 34) (L := [.ref 67]) (S := []) (z := (zS I J (some 51))) rfl c43 ?_
    refine Runs.sN 3 (c' := (15, [.ref 67], [.int 9999, .int (I 67 13)], (zS I J (some 51)))) rfl ?_
    by_cases c44 : (I 67 13) ≤ 9999
    · rw [if_pos c44] at h
      refine Runs.brT (P := (I 67 13) ≤ 9999) (a := 20) (b := 18) (L := [.ref 67]) (S := []) (z := (zS I J (some 51))) rfl c44 ?_
      refine Runs.sN 4 (c' := (28, [.ref 67], [.int (I 67 13), .ref 51], (zS I J (some 51)))) rfl ?_
      obtain ⟨I30, J31, tg32, c45, h⟩ := h
      refine Runs.cl (cm := 25) (as := [.ref 51, .int (I 67 13)]) (rest := []) (r1 := (none, (zS I30 J31 tg32))) rfl (Nat.le_of_ble_eq_true rfl) c45 ?_
      refine Runs.as (c' := (31, [.ref 67], [], (zS I30 J31 tg32))) rfl ?_
      refine Runs.sN 1 (c' := (84, [.ref 67], [], (zS I30 J31 tg32))) rfl ?_
      exact h
    · rw [if_neg c44] at h
      refine Runs.brF (P := (I 67 13) ≤ 9999) (a := 20) (b := 18) (L := [.ref 67]) (S := []) (z := (zS I J (some 51))) rfl c44 ?_
      refine Runs.sN 1 (c' := (19, [.ref 67], [.int 2], (zS I J (some 51)))) rfl ?_
      subst h
      exact Runs.rt rfl
  · rw [if_neg c43] at h
    refine Runs.brF (P := (I 67 12) = 2) (a := 8) (b := 34) (L := [.ref 67]) (S := []) (z := (zS I J (some 51))) rfl c43 ?_
    refine Runs.sN 3 (c' := (39, [.ref 67], [.int 3, .int (I 67 12)], (zS I J (some 51)))) rfl ?_
    by_cases c46 : (I 67 12) = 3
    · rw [if_pos c46] at h
      refine Runs.brT (P := (I 67 12) = 3) (a := 42) (b := 79) (L := [.ref 67]) (S := []) (z := (zS I J (some 51))) rfl c46 ?_
      refine Runs.sN 3 (c' := (48, [.ref 67], [.int 8, .int (I 67 13)], (zS I J (some 51)))) rfl ?_
      by_cases c47 : (I 67 13) < 8
      · rw [if_pos c47] at h
        refine Runs.brT (P := (I 67 13) < 8) (a := 61) (b := 51) (L := [.ref 67]) (S := []) (z := (zS I J (some 51))) rfl c47 ?_
        refine Runs.sN 6 (c' := (73, [.ref 67], [.int (10000 + (I 67 13)), .ref 51], (zS I J (some 51)))) rfl ?_
        obtain ⟨I33, J34, tg35, c48, h⟩ := h
        refine Runs.cl (cm := 25) (as := [.ref 51, .int (10000 + (I 67 13))]) (rest := []) (r1 := (none, (zS I33 J34 tg35))) rfl (Nat.le_of_ble_eq_true rfl) c48 ?_
        refine Runs.as (c' := (76, [.ref 67], [], (zS I33 J34 tg35))) rfl ?_
        refine Runs.sN 1 (c' := (84, [.ref 67], [], (zS I33 J34 tg35))) rfl ?_
        exact h
      · rw [if_neg c47] at h
        refine Runs.brF (P := (I 67 13) < 8) (a := 61) (b := 51) (L := [.ref 67]) (S := []) (z := (zS I J (some 51))) rfl c47 ?_
        refine Runs.sN 3 (c' := (56, [.ref 67], [.int 2, .int (I 67 8)], (zS I J (some 51)))) rfl ?_
        by_cases c49 : (I 67 8) = 2
        · rw [if_pos c49] at h
          refine Runs.brT (P := (I 67 8) = 2) (a := 61) (b := 59) (L := [.ref 67]) (S := []) (z := (zS I J (some 51))) rfl c49 ?_
          refine Runs.sN 6 (c' := (73, [.ref 67], [.int (10000 + (I 67 13)), .ref 51], (zS I J (some 51)))) rfl ?_
          obtain ⟨I36, J37, tg38, c50, h⟩ := h
          refine Runs.cl (cm := 25) (as := [.ref 51, .int (10000 + (I 67 13))]) (rest := []) (r1 := (none, (zS I36 J37 tg38))) rfl (Nat.le_of_ble_eq_true rfl) c50 ?_
          refine Runs.as (c' := (76, [.ref 67], [], (zS I36 J37 tg38))) rfl ?_
          refine Runs.sN 1 (c' := (84, [.ref 67], [], (zS I36 J37 tg38))) rfl ?_
          exact h
        · rw [if_neg c49] at h
          refine Runs.brF (P := (I 67 8) = 2) (a := 61) (b := 59) (L := [.ref 67]) (S := []) (z := (zS I J (some 51))) rfl c49 ?_
          refine Runs.sN 1 (c' := (60, [.ref 67], [.int 5], (zS I J (some 51)))) rfl ?_
          subst h
          exact Runs.rt rfl
    · rw [if_neg c46] at h
      refine Runs.brF (P := (I 67 12) = 3) (a := 42) (b := 79) (L := [.ref 67]) (S := []) (z := (zS I J (some 51))) rfl c46 ?_
      refine Runs.sN 1 (c' := (80, [.ref 67], [.ref 67], (zS I J (some 51)))) rfl ?_
      obtain ⟨v39, I40, J41, tg42, c51, h⟩ := h
      refine Runs.cl (cm := 83) (as := [.ref 67]) (rest := []) (r1 := ((some (.int v39)), (zS I40 J41 tg42))) rfl (Nat.le_of_ble_eq_true rfl) c51 ?_
      refine Runs.as (c' := (83, [.ref 67], [.int v39], (zS I40 J41 tg42))) rfl ?_
      subst h
      exact Runs.rt rfl
theorem sg_82t51_84 {L d : Nat} {xs : Nat → Int32} (I : Nat → Nat → Int32) (J : Nat → Nat → Int64) (tg : Option Nat) {r : Option Value × SS} (h : ((if (I 67 11) ≤ 0 then (r = (some (.int 0), (zS (up2 I 67 7 3) J (some 51)))) else (∃ (I1 : Nat → Nat → Int32) (J2 : Nat → Nat → Int64) (tg3 : Option Nat), Runs (GW L xs) d 25 (0, [.ref 51, .int 20021], [], (zS I J (some 51))) (none, (zS I1 J2 tg3)) ∧ Runs (GW L xs) (d + 1) 82 (84, [.ref 67], [], (zS (up2 I1 67 11 ((I1 67 11) - 1)) J2 tg3)) r)))) : Runs (GW L xs) (d + 1) 82 (84, [.ref 67], [], (zS I J (some 51))) r := by
  refine Runs.sN 2 (c' := (88, [.ref 67], [.int (I 67 11)], (zS I J (some 51)))) rfl ?_
  by_cases c4 : (I 67 11) ≤ 0
  · rw [if_pos c4] at h
    refine Runs.brT (P := (I 67 11) ≤ 0) (a := 114) (b := 91) (L := [.ref 67]) (S := []) (z := (zS I J (some 51))) rfl c4 ?_
    refine Runs.sN 4 (c' := (120, [.ref 67], [.int 0], (zS (up2 I 67 7 3) J (some 51)))) rfl ?_
    subst h
    exact Runs.rt rfl
  · rw [if_neg c4] at h
    refine Runs.brF (P := (I 67 11) ≤ 0) (a := 114) (b := 91) (L := [.ref 67]) (S := []) (z := (zS I J (some 51))) rfl c4 ?_
    refine Runs.sN 3 (c' := (98, [.ref 67], [.int 20021, .ref 51], (zS I J (some 51)))) rfl ?_
    obtain ⟨I1, J2, tg3, c5, h⟩ := h
    refine Runs.cl (cm := 25) (as := [.ref 51, .int 20021]) (rest := []) (r1 := (none, (zS I1 J2 tg3))) rfl (Nat.le_of_ble_eq_true rfl) c5 ?_
    refine Runs.as (c' := (101, [.ref 67], [], (zS I1 J2 tg3))) rfl ?_
    refine Runs.sN 7 (c' := (84, [.ref 67], [], (zS (up2 I1 67 11 ((I1 67 11) - 1)) J2 tg3))) rfl ?_
    exact h
