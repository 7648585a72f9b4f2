-- X8_scanWord 
theorem sg_76 {L d : Nat} {xs : Nat → Int32} (I : Nat → Nat → Int32) (J : Nat → Nat → Int64) (tg : Option Nat) {r : Option Value × SS} (h : (Runs (GW L xs) (d + 1) 76 (5, [.ref 67, .int (I 67 14)], [], (zS I J tg)) r)) : Runs (GW L xs) (d + 1) 76 (0, [.ref 67, vU], [], (zS I J tg)) r := by
  refine Runs.sN 3 (c' := (5, [.ref 67, .int (I 67 14)], [], (zS I J tg))) rfl ?_
  exact h
theorem sg_76_5 {L d : Nat} {xs : Nat → Int32} (I : Nat → Nat → Int32) (J : Nat → Nat → Int64) (tg : Option Nat) (x1 : Int32) {r : Option Value × SS} (h : ((if (I 67 2) ≤ x1 then (∃ (v1 : Int32) (I2 : Nat → Nat → Int32), Runs (GW L xs) d 77 (0, [.ref 67, vU, vU, vU, vU, vU], [], (zS I J tg)) ((some (.int v1)), (zS I2 J tg)) ∧ (if v1 = (-1) then (r = (none, (zS (up2 (up2 I2 67 13 v1) 67 12 1) J tg))) else ((if 12 ≤ v1 then (r = (none, (zS (up2 (up2 I2 67 13 v1) 67 12 ((4 + v1) - 12)) J tg))) else (r = (none, (zS (up2 (up2 I2 67 13 v1) 67 12 3) J tg))))))) else (¬ (x1 < 0 ∨ 300 ≤ (x1).toNatClampNeg) ∧ ∃ (v3 : Int32) (I4 : Nat → Nat → Int32), Runs (GW L xs) d 74 (0, [.int (I 68 ((x1).toNatClampNeg))], [], (zS I J tg)) ((some (.int v3)), (zS I4 J tg)) ∧ (if v3 = 0 then (∃ (v5 : Int32) (I6 : Nat → Nat → Int32), Runs (GW L xs) d 77 (0, [.ref 67, vU, vU, vU, vU, vU], [], (zS I4 J tg)) ((some (.int v5)), (zS I6 J tg)) ∧ (if v5 = (-1) then (r = (none, (zS (up2 (up2 I6 67 13 v5) 67 12 1) J tg))) else ((if 12 ≤ v5 then (r = (none, (zS (up2 (up2 I6 67 13 v5) 67 12 ((4 + v5) - 12)) J tg))) else (r = (none, (zS (up2 (up2 I6 67 13 v5) 67 12 3) J tg))))))) else (Runs (GW L xs) (d + 1) 76 (5, [.ref 67, .int (x1 + 1)], [], (zS (up2 I4 67 15 (x1 + 1)) J tg)) r)))))) : Runs (GW L xs) (d + 1) 76 (5, [.ref 67, .int x1], [], (zS I J tg)) r := by
  refine Runs.sN 3 (c' := (10, [.ref 67, .int x1], [.int (I 67 2), .int x1], (zS I J tg))) rfl ?_
  by_cases c7 : (I 67 2) ≤ x1
  · rw [if_pos c7] at h
    refine Runs.brT (P := (I 67 2) ≤ x1) (a := 38) (b := 13) (L := [.ref 67, .int x1]) (S := []) (z := (zS I J tg)) rfl c7 ?_
    refine Runs.sN 2 (c' := (40, [.ref 67, .int x1], [.ref 67, .ref 67], (zS I J tg))) rfl ?_
    obtain ⟨v1, I2, c8, h⟩ := h
    refine Runs.cl (cm := 77) (as := [.ref 67]) (rest := [.ref 67]) (r1 := ((some (.int v1)), (zS I2 J tg))) rfl (Nat.le_of_ble_eq_true rfl) c8 ?_
    refine Runs.as (c' := (43, [.ref 67, .int x1], [.int v1, .ref 67], (zS I2 J tg))) rfl ?_
    refine Runs.sN 4 (c' := (51, [.ref 67, .int x1], [.int (-1), .int v1], (zS (up2 I2 67 13 v1) J tg))) rfl ?_
    by_cases c9 : v1 = (-1)
    · rw [if_pos c9] at h
      refine Runs.brT (P := v1 = (-1)) (a := 54) (b := 62) (L := [.ref 67, .int x1]) (S := []) (z := (zS (up2 I2 67 13 v1) J tg)) rfl c9 ?_
      refine Runs.sN 4 (c' := (88, [.ref 67, .int x1], [], (zS (up2 (up2 I2 67 13 v1) 67 12 1) J tg))) rfl ?_
      subst h
      exact Runs.rt rfl
    · rw [if_neg c9] at h
      refine Runs.brF (P := v1 = (-1)) (a := 54) (b := 62) (L := [.ref 67, .int x1]) (S := []) (z := (zS (up2 I2 67 13 v1) J tg)) rfl c9 ?_
      refine Runs.sN 4 (c' := (69, [.ref 67, .int x1], [.int 12, .int v1, .ref 67], (zS (up2 I2 67 13 v1) J tg))) rfl ?_
      by_cases c10 : 12 ≤ v1
      · rw [if_pos c10] at h
        refine Runs.brT (P := 12 ≤ v1) (a := 76) (b := 72) (L := [.ref 67, .int x1]) (S := [.ref 67]) (z := (zS (up2 I2 67 13 v1) J tg)) rfl c10 ?_
        refine Runs.sN 7 (c' := (88, [.ref 67, .int x1], [], (zS (up2 (up2 I2 67 13 v1) 67 12 ((4 + v1) - 12)) J tg))) rfl ?_
        subst h
        exact Runs.rt rfl
      · rw [if_neg c10] at h
        refine Runs.brF (P := 12 ≤ v1) (a := 76) (b := 72) (L := [.ref 67, .int x1]) (S := [.ref 67]) (z := (zS (up2 I2 67 13 v1) J tg)) rfl c10 ?_
        refine Runs.sN 3 (c' := (88, [.ref 67, .int x1], [], (zS (up2 (up2 I2 67 13 v1) 67 12 3) J tg))) rfl ?_
        subst h
        exact Runs.rt rfl
  · rw [if_neg c7] at h
    refine Runs.brF (P := (I 67 2) ≤ x1) (a := 38) (b := 13) (L := [.ref 67, .int x1]) (S := []) (z := (zS I J tg)) rfl c7 ?_
    refine Runs.sN 3 (c' := (18, [.ref 67, .int x1], [.int x1, .ref 68], (zS I J tg))) rfl ?_
    obtain ⟨c11, h⟩ := h
    refine Runs.to (c' := (19, [.ref 67, .int x1], [.int (I 68 ((x1).toNatClampNeg))], (zS I J tg))) (Runs.bld rfl (show (68 : Nat) < 114 by decide) rfl c11) ?_
    obtain ⟨v3, I4, c12, h⟩ := h
    refine Runs.cl (cm := 74) (as := [.int (I 68 ((x1).toNatClampNeg))]) (rest := []) (r1 := ((some (.int v3)), (zS I4 J tg))) rfl (Nat.le_of_ble_eq_true rfl) c12 ?_
    refine Runs.as (c' := (22, [.ref 67, .int x1], [.int v3], (zS I4 J tg))) rfl ?_
    by_cases c13 : v3 = 0
    · rw [if_pos c13] at h
      refine Runs.brT (P := v3 = 0) (a := 38) (b := 25) (L := [.ref 67, .int x1]) (S := []) (z := (zS I4 J tg)) rfl c13 ?_
      refine Runs.sN 2 (c' := (40, [.ref 67, .int x1], [.ref 67, .ref 67], (zS I4 J tg))) rfl ?_
      obtain ⟨v5, I6, c14, h⟩ := h
      refine Runs.cl (cm := 77) (as := [.ref 67]) (rest := [.ref 67]) (r1 := ((some (.int v5)), (zS I6 J tg))) rfl (Nat.le_of_ble_eq_true rfl) c14 ?_
      refine Runs.as (c' := (43, [.ref 67, .int x1], [.int v5, .ref 67], (zS I6 J tg))) rfl ?_
      refine Runs.sN 4 (c' := (51, [.ref 67, .int x1], [.int (-1), .int v5], (zS (up2 I6 67 13 v5) J tg))) rfl ?_
      by_cases c15 : v5 = (-1)
      · rw [if_pos c15] at h
        refine Runs.brT (P := v5 = (-1)) (a := 54) (b := 62) (L := [.ref 67, .int x1]) (S := []) (z := (zS (up2 I6 67 13 v5) J tg)) rfl c15 ?_
        refine Runs.sN 4 (c' := (88, [.ref 67, .int x1], [], (zS (up2 (up2 I6 67 13 v5) 67 12 1) J tg))) rfl ?_
        subst h
        exact Runs.rt rfl
      · rw [if_neg c15] at h
        refine Runs.brF (P := v5 = (-1)) (a := 54) (b := 62) (L := [.ref 67, .int x1]) (S := []) (z := (zS (up2 I6 67 13 v5) J tg)) rfl c15 ?_
        refine Runs.sN 4 (c' := (69, [.ref 67, .int x1], [.int 12, .int v5, .ref 67], (zS (up2 I6 67 13 v5) J tg))) rfl ?_
        by_cases c16 : 12 ≤ v5
        · rw [if_pos c16] at h
          refine Runs.brT (P := 12 ≤ v5) (a := 76) (b := 72) (L := [.ref 67, .int x1]) (S := [.ref 67]) (z := (zS (up2 I6 67 13 v5) J tg)) rfl c16 ?_
          refine Runs.sN 7 (c' := (88, [.ref 67, .int x1], [], (zS (up2 (up2 I6 67 13 v5) 67 12 ((4 + v5) - 12)) J tg))) rfl ?_
          subst h
          exact Runs.rt rfl
        · rw [if_neg c16] at h
          refine Runs.brF (P := 12 ≤ v5) (a := 76) (b := 72) (L := [.ref 67, .int x1]) (S := [.ref 67]) (z := (zS (up2 I6 67 13 v5) J tg)) rfl c16 ?_
          refine Runs.sN 3 (c' := (88, [.ref 67, .int x1], [], (zS (up2 (up2 I6 67 13 v5) 67 12 3) J tg))) rfl ?_
          subst h
          exact Runs.rt rfl
    · rw [if_neg c13] at h
      refine Runs.brF (P := v3 = 0) (a := 38) (b := 25) (L := [.ref 67, .int x1]) (S := []) (z := (zS I4 J tg)) rfl c13 ?_
      refine Runs.sN 7 (c' := (5, [.ref 67, .int (x1 + 1)], [], (zS (up2 I4 67 15 (x1 + 1)) J tg))) rfl ?_
      exact h
-- X8_numberOfWord 
theorem sg_77 {L d : Nat} {xs : Nat → Int32} (I : Nat → Nat → Int32) (J : Nat → Nat → Int64) (tg : Option Nat) {r : Option Value × SS} (h : (Runs (GW L xs) d 77 (12, [.ref 67, .int 0, .int (I 67 14), .int 1, .int 0, vU], [], (zS I J tg)) r)) : Runs (GW L xs) d 77 (0, [.ref 67, vU, vU, vU, vU, vU], [], (zS I J tg)) r := by
  refine Runs.sN 9 (c' := (12, [.ref 67, .int 0, .int (I 67 14), .int 1, .int 0, vU], [], (zS I J tg))) rfl ?_
  exact h
theorem sg_77_12 {L d : Nat} {xs : Nat → Int32} (I : Nat → Nat → Int32) (J : Nat → Nat → Int64) (tg : Option Nat) (x1 : Int32) (x2 : Int32) (x3 : Int32) (x4 : Int32) {r : Option Value × SS} (h : ((if 94 ≤ x4 then (r = (some (.int (-1)), (zS I J tg))) else (¬ (x4 < 0 ∨ 94 ≤ (x4).toNatClampNeg) ∧ (if (wordsT.getD (x4).toNatClampNeg 0) = 32 then ((if x3 = 0 then (Runs (GW L xs) d 77 (12, [.ref 67, .int (x1 + 1), .int (I 67 14), .int 1, .int (x4 + 1), vU], [], (zS I J tg)) r) else ((if x2 = (I 67 15) then (r = (some (.int x1), (zS I J tg))) else (Runs (GW L xs) d 77 (12, [.ref 67, .int (x1 + 1), .int (I 67 14), .int 1, .int (x4 + 1), vU], [], (zS I J tg)) r))))) else ((if x3 = 0 then (Runs (GW L xs) d 77 (12, [.ref 67, .int x1, .int x2, .int 0, .int (x4 + 1), vU], [], (zS I J tg)) r) else ((if (I 67 15) ≤ x2 then (Runs (GW L xs) d 77 (12, [.ref 67, .int x1, .int x2, .int 0, .int (x4 + 1), vU], [], (zS I J tg)) r) else (¬ (x2 < 0 ∨ 300 ≤ (x2).toNatClampNeg) ∧ (if (I 68 ((x2).toNatClampNeg)) = (wordsT.getD (x4).toNatClampNeg 0) then (Runs (GW L xs) d 77 (12, [.ref 67, .int x1, .int (x2 + 1), .int x3, .int (x4 + 1), vU], [], (zS I J tg)) r) else (Runs (GW L xs) d 77 (12, [.ref 67, .int x1, .int x2, .int 0, .int (x4 + 1), vU], [], (zS I J tg)) r)))))))))))) : Runs (GW L xs) d 77 (12, [.ref 67, .int x1, .int x2, .int x3, .int x4, vU], [], (zS I J tg)) r := by
  refine Runs.sN 3 (c' := (19, [.ref 67, .int x1, .int x2, .int x3, .int x4, vU], [.int 94, .int x4], (zS I J tg))) rfl ?_
  by_cases c1 : 94 ≤ x4
  · rw [if_pos c1] at h
    refine Runs.brT (P := 94 ≤ x4) (a := 102) (b := 22) (L := [.ref 67, .int x1, .int x2, .int x3, .int x4, vU]) (S := []) (z := (zS I J tg)) rfl c1 ?_
    refine Runs.sN 1 (c' := (103, [.ref 67, .int x1, .int x2, .int x3, .int x4, vU], [.int (-1)], (zS I J tg))) rfl ?_
    subst h
    exact Runs.rt rfl
  · rw [if_neg c1] at h
    refine Runs.brF (P := 94 ≤ x4) (a := 102) (b := 22) (L := [.ref 67, .int x1, .int x2, .int x3, .int x4, vU]) (S := []) (z := (zS I J tg)) rfl c1 ?_
    refine Runs.sN 2 (c' := (26, [.ref 67, .int x1, .int x2, .int x3, .int x4, vU], [.int x4, .retAddr 2], (zS I J tg))) rfl ?_
    obtain ⟨c2, h⟩ := h
    refine Runs.to (c' := (29, [.ref 67, .int x1, .int x2, .int x3, .int x4, vU], [.int (wordsT.getD (x4).toNatClampNeg 0)], (zS I J tg))) (Runs.chr rfl rfl (Nat.le_of_ble_eq_true rfl) c2) ?_
    refine Runs.sN 3 (c' := (35, [.ref 67, .int x1, .int x2, .int x3, .int x4, .int (wordsT.getD (x4).toNatClampNeg 0)], [.int 32, .int (wordsT.getD (x4).toNatClampNeg 0)], (zS I J tg))) rfl ?_
    by_cases c3 : (wordsT.getD (x4).toNatClampNeg 0) = 32
    · rw [if_pos c3] at h
      refine Runs.brT (P := (wordsT.getD (x4).toNatClampNeg 0) = 32) (a := 38) (b := 65) (L := [.ref 67, .int x1, .int x2, .int x3, .int x4, .int (wordsT.getD (x4).toNatClampNeg 0)]) (S := []) (z := (zS I J tg)) rfl c3 ?_
      refine Runs.sN 1 (c' := (39, [.ref 67, .int x1, .int x2, .int x3, .int x4, .int (wordsT.getD (x4).toNatClampNeg 0)], [.int x3], (zS I J tg))) rfl ?_
      by_cases c4 : x3 = 0
      · rw [if_pos c4] at h
        refine Runs.brT (P := x3 = 0) (a := 52) (b := 42) (L := [.ref 67, .int x1, .int x2, .int x3, .int x4, .int (wordsT.getD (x4).toNatClampNeg 0)]) (S := []) (z := (zS I J tg)) rfl c4 ?_
        refine Runs.sN 9 (c' := (12, [.ref 67, .int (x1 + 1), .int (I 67 14), .int 1, .int (x4 + 1), .int (wordsT.getD (x4).toNatClampNeg 0)], [], (zS I J tg))) rfl ?_
        exact Runs.weak (L := [.ref 67, .int (x1 + 1), .int (I 67 14), .int 1, .int (x4 + 1), vU]) (Lle.k (Lle.k (Lle.k (Lle.k (Lle.k (Lle.u Lle.n)))))) h
      · rw [if_neg c4] at h
        refine Runs.brF (P := x3 = 0) (a := 52) (b := 42) (L := [.ref 67, .int x1, .int x2, .int x3, .int x4, .int (wordsT.getD (x4).toNatClampNeg 0)]) (S := []) (z := (zS I J tg)) rfl c4 ?_
        refine Runs.sN 3 (c' := (47, [.ref 67, .int x1, .int x2, .int x3, .int x4, .int (wordsT.getD (x4).toNatClampNeg 0)], [.int (I 67 15), .int x2], (zS I J tg))) rfl ?_
        by_cases c5 : x2 = (I 67 15)
        · rw [if_pos c5] at h
          refine Runs.brT (P := x2 = (I 67 15)) (a := 50) (b := 52) (L := [.ref 67, .int x1, .int x2, .int x3, .int x4, .int (wordsT.getD (x4).toNatClampNeg 0)]) (S := []) (z := (zS I J tg)) rfl c5 ?_
          refine Runs.sN 1 (c' := (51, [.ref 67, .int x1, .int x2, .int x3, .int x4, .int (wordsT.getD (x4).toNatClampNeg 0)], [.int x1], (zS I J tg))) rfl ?_
          subst h
          exact Runs.rt rfl
        · rw [if_neg c5] at h
          refine Runs.brF (P := x2 = (I 67 15)) (a := 50) (b := 52) (L := [.ref 67, .int x1, .int x2, .int x3, .int x4, .int (wordsT.getD (x4).toNatClampNeg 0)]) (S := []) (z := (zS I J tg)) rfl c5 ?_
          refine Runs.sN 9 (c' := (12, [.ref 67, .int (x1 + 1), .int (I 67 14), .int 1, .int (x4 + 1), .int (wordsT.getD (x4).toNatClampNeg 0)], [], (zS I J tg))) rfl ?_
          exact Runs.weak (L := [.ref 67, .int (x1 + 1), .int (I 67 14), .int 1, .int (x4 + 1), vU]) (Lle.k (Lle.k (Lle.k (Lle.k (Lle.k (Lle.u Lle.n)))))) h
    · rw [if_neg c3] at h
      refine Runs.brF (P := (wordsT.getD (x4).toNatClampNeg 0) = 32) (a := 38) (b := 65) (L := [.ref 67, .int x1, .int x2, .int x3, .int x4, .int (wordsT.getD (x4).toNatClampNeg 0)]) (S := []) (z := (zS I J tg)) rfl c3 ?_
      refine Runs.sN 1 (c' := (66, [.ref 67, .int x1, .int x2, .int x3, .int x4, .int (wordsT.getD (x4).toNatClampNeg 0)], [.int x3], (zS I J tg))) rfl ?_
      by_cases c6 : x3 = 0
      · rw [if_pos c6] at h
        refine Runs.brT (P := x3 = 0) (a := 94) (b := 69) (L := [.ref 67, .int x1, .int x2, .int x3, .int x4, .int (wordsT.getD (x4).toNatClampNeg 0)]) (S := []) (z := (zS I J tg)) rfl c6 ?_
        refine Runs.sN 4 (c' := (12, [.ref 67, .int x1, .int x2, .int 0, .int (x4 + 1), .int (wordsT.getD (x4).toNatClampNeg 0)], [], (zS I J tg))) rfl ?_
        exact Runs.weak (L := [.ref 67, .int x1, .int x2, .int 0, .int (x4 + 1), vU]) (Lle.k (Lle.k (Lle.k (Lle.k (Lle.k (Lle.u Lle.n)))))) h
      · rw [if_neg c6] at h
        refine Runs.brF (P := x3 = 0) (a := 94) (b := 69) (L := [.ref 67, .int x1, .int x2, .int x3, .int x4, .int (wordsT.getD (x4).toNatClampNeg 0)]) (S := []) (z := (zS I J tg)) rfl c6 ?_
        refine Runs.sN 3 (c' := (74, [.ref 67, .int x1, .int x2, .int x3, .int x4, .int (wordsT.getD (x4).toNatClampNeg 0)], [.int (I 67 15), .int x2], (zS I J tg))) rfl ?_
        by_cases c7 : (I 67 15) ≤ x2
        · rw [if_pos c7] at h
          refine Runs.brT (P := (I 67 15) ≤ x2) (a := 94) (b := 77) (L := [.ref 67, .int x1, .int x2, .int x3, .int x4, .int (wordsT.getD (x4).toNatClampNeg 0)]) (S := []) (z := (zS I J tg)) rfl c7 ?_
          refine Runs.sN 4 (c' := (12, [.ref 67, .int x1, .int x2, .int 0, .int (x4 + 1), .int (wordsT.getD (x4).toNatClampNeg 0)], [], (zS I J tg))) rfl ?_
          exact Runs.weak (L := [.ref 67, .int x1, .int x2, .int 0, .int (x4 + 1), vU]) (Lle.k (Lle.k (Lle.k (Lle.k (Lle.k (Lle.u Lle.n)))))) h
        · rw [if_neg c7] at h
          refine Runs.brF (P := (I 67 15) ≤ x2) (a := 94) (b := 77) (L := [.ref 67, .int x1, .int x2, .int x3, .int x4, .int (wordsT.getD (x4).toNatClampNeg 0)]) (S := []) (z := (zS I J tg)) rfl c7 ?_
          refine Runs.sN 3 (c' := (82, [.ref 67, .int x1, .int x2, .int x3, .int x4, .int (wordsT.getD (x4).toNatClampNeg 0)], [.int x2, .ref 68], (zS I J tg))) rfl ?_
          obtain ⟨c8, h⟩ := h
          refine Runs.to (c' := (83, [.ref 67, .int x1, .int x2, .int x3, .int x4, .int (wordsT.getD (x4).toNatClampNeg 0)], [.int (I 68 ((x2).toNatClampNeg))], (zS I J tg))) (Runs.bld rfl (show (68 : Nat) < 114 by decide) rfl c8) ?_
          refine Runs.sN 1 (c' := (85, [.ref 67, .int x1, .int x2, .int x3, .int x4, .int (wordsT.getD (x4).toNatClampNeg 0)], [.int (wordsT.getD (x4).toNatClampNeg 0), .int (I 68 ((x2).toNatClampNeg))], (zS I J tg))) rfl ?_
          by_cases c9 : (I 68 ((x2).toNatClampNeg)) = (wordsT.getD (x4).toNatClampNeg 0)
          · rw [if_pos c9] at h
            refine Runs.brT (P := (I 68 ((x2).toNatClampNeg)) = (wordsT.getD (x4).toNatClampNeg 0)) (a := 88) (b := 94) (L := [.ref 67, .int x1, .int x2, .int x3, .int x4, .int (wordsT.getD (x4).toNatClampNeg 0)]) (S := []) (z := (zS I J tg)) rfl c9 ?_
            refine Runs.sN 4 (c' := (12, [.ref 67, .int x1, .int (x2 + 1), .int x3, .int (x4 + 1), .int (wordsT.getD (x4).toNatClampNeg 0)], [], (zS I J tg))) rfl ?_
            exact Runs.weak (L := [.ref 67, .int x1, .int (x2 + 1), .int x3, .int (x4 + 1), vU]) (Lle.k (Lle.k (Lle.k (Lle.k (Lle.k (Lle.u Lle.n)))))) h
          · rw [if_neg c9] at h
            refine Runs.brF (P := (I 68 ((x2).toNatClampNeg)) = (wordsT.getD (x4).toNatClampNeg 0)) (a := 88) (b := 94) (L := [.ref 67, .int x1, .int x2, .int x3, .int x4, .int (wordsT.getD (x4).toNatClampNeg 0)]) (S := []) (z := (zS I J tg)) rfl c9 ?_
            refine Runs.sN 4 (c' := (12, [.ref 67, .int x1, .int x2, .int 0, .int (x4 + 1), .int (wordsT.getD (x4).toNatClampNeg 0)], [], (zS I J tg))) rfl ?_
            exact Runs.weak (L := [.ref 67, .int x1, .int x2, .int 0, .int (x4 + 1), vU]) (Lle.k (Lle.k (Lle.k (Lle.k (Lle.k (Lle.u Lle.n)))))) h
-- X8_scanSign 
theorem sg_78 {L d : Nat} {xs : Nat → Int32} (I : Nat → Nat → Int32) (J : Nat → Nat → Int64) (tg : Option Nat) {r : Option Value × SS} (h : ((if (I 67 2) ≤ ((I 67 14) + 1) then (¬ ((I 67 14) < 0 ∨ 300 ≤ (I 67 14).toNatClampNeg) ∧ ∃ (v7 : Int32) (I8 : Nat → Nat → Int32), Runs (GW L xs) d 79 (0, [.int (I 68 ((I 67 14).toNatClampNeg))], [], (zS (up2 I 67 15 ((I 67 14) + 1)) J tg)) ((some (.int v7)), (zS I8 J tg)) ∧ (if (0 : Int32) = 0 then (r = (none, (zS (up2 I8 67 12 v7) J tg))) else ((if v7 = 9 then ((if v7 = 9 then (r = (none, (zS (up2 (up2 (up2 I8 67 12 v7) 67 12 10) 67 15 ((I8 67 15) + 1)) J tg))) else (r = (none, (zS (up2 (up2 (up2 I8 67 12 v7) 67 12 12) 67 15 ((I8 67 15) + 1)) J tg))))) else ((if v7 = 11 then ((if v7 = 9 then (r = (none, (zS (up2 (up2 (up2 I8 67 12 v7) 67 12 10) 67 15 ((I8 67 15) + 1)) J tg))) else (r = (none, (zS (up2 (up2 (up2 I8 67 12 v7) 67 12 12) 67 15 ((I8 67 15) + 1)) J tg))))) else (r = (none, (zS (up2 I8 67 12 v7) J tg))))))))) else (¬ (((I 67 14) + 1) < 0 ∨ 300 ≤ ((I 67 14) + 1).toNatClampNeg) ∧ (if (I 68 (((I 67 14) + 1).toNatClampNeg)) = 61 then (¬ ((I 67 14) < 0 ∨ 300 ≤ (I 67 14).toNatClampNeg) ∧ ∃ (v9 : Int32) (I10 : Nat → Nat → Int32), Runs (GW L xs) d 79 (0, [.int (I 68 ((I 67 14).toNatClampNeg))], [], (zS (up2 I 67 15 ((I 67 14) + 1)) J tg)) ((some (.int v9)), (zS I10 J tg)) ∧ (if (1 : Int32) = 0 then (r = (none, (zS (up2 I10 67 12 v9) J tg))) else ((if v9 = 9 then ((if v9 = 9 then (r = (none, (zS (up2 (up2 (up2 I10 67 12 v9) 67 12 10) 67 15 ((I10 67 15) + 1)) J tg))) else (r = (none, (zS (up2 (up2 (up2 I10 67 12 v9) 67 12 12) 67 15 ((I10 67 15) + 1)) J tg))))) else ((if v9 = 11 then ((if v9 = 9 then (r = (none, (zS (up2 (up2 (up2 I10 67 12 v9) 67 12 10) 67 15 ((I10 67 15) + 1)) J tg))) else (r = (none, (zS (up2 (up2 (up2 I10 67 12 v9) 67 12 12) 67 15 ((I10 67 15) + 1)) J tg))))) else (r = (none, (zS (up2 I10 67 12 v9) J tg))))))))) else (¬ ((I 67 14) < 0 ∨ 300 ≤ (I 67 14).toNatClampNeg) ∧ ∃ (v11 : Int32) (I12 : Nat → Nat → Int32), Runs (GW L xs) d 79 (0, [.int (I 68 ((I 67 14).toNatClampNeg))], [], (zS (up2 I 67 15 ((I 67 14) + 1)) J tg)) ((some (.int v11)), (zS I12 J tg)) ∧ (if (0 : Int32) = 0 then (r = (none, (zS (up2 I12 67 12 v11) J tg))) else ((if v11 = 9 then ((if v11 = 9 then (r = (none, (zS (up2 (up2 (up2 I12 67 12 v11) 67 12 10) 67 15 ((I12 67 15) + 1)) J tg))) else (r = (none, (zS (up2 (up2 (up2 I12 67 12 v11) 67 12 12) 67 15 ((I12 67 15) + 1)) J tg))))) else ((if v11 = 11 then ((if v11 = 9 then (r = (none, (zS (up2 (up2 (up2 I12 67 12 v11) 67 12 10) 67 15 ((I12 67 15) + 1)) J tg))) else (r = (none, (zS (up2 (up2 (up2 I12 67 12 v11) 67 12 12) 67 15 ((I12 67 15) + 1)) J tg))))) else (r = (none, (zS (up2 I12 67 12 v11) J tg)))))))))))))) : Runs (GW L xs) (d + 1) 78 (0, [.ref 67, vU], [], (zS I J tg)) r := by
  refine Runs.sN 10 (c' := (18, [.ref 67, vU], [.int (I 67 2), .int ((I 67 14) + 1)], (zS (up2 I 67 15 ((I 67 14) + 1)) J tg))) rfl ?_
  by_cases c13 : (I 67 2) ≤ ((I 67 14) + 1)
  · rw [if_pos c13] at h
    refine Runs.brT (P := (I 67 2) ≤ ((I 67 14) + 1)) (a := 39) (b := 21) (L := [.ref 67, vU]) (S := []) (z := (zS (up2 I 67 15 ((I 67 14) + 1)) J tg)) rfl c13 ?_
    refine Runs.sN 7 (c' := (50, [.ref 67, .int 0], [.int (I 67 14), .ref 68, .ref 67], (zS (up2 I 67 15 ((I 67 14) + 1)) J tg))) rfl ?_
    obtain ⟨c14, h⟩ := h
    refine Runs.to (c' := (51, [.ref 67, .int 0], [.int (I 68 ((I 67 14).toNatClampNeg)), .ref 67], (zS (up2 I 67 15 ((I 67 14) + 1)) J tg))) (Runs.bld rfl (show (68 : Nat) < 114 by decide) rfl c14) ?_
    obtain ⟨v7, I8, c15, h⟩ := h
    refine Runs.cl (cm := 79) (as := [.int (I 68 ((I 67 14).toNatClampNeg))]) (rest := [.ref 67]) (r1 := ((some (.int v7)), (zS I8 J tg))) rfl (Nat.le_of_ble_eq_true rfl) c15 ?_
    refine Runs.as (c' := (54, [.ref 67, .int 0], [.int v7, .ref 67], (zS I8 J tg))) rfl ?_
    refine Runs.sN 2 (c' := (58, [.ref 67, .int 0], [.int 0], (zS (up2 I8 67 12 v7) J tg))) rfl ?_
    by_cases c16 : (0 : Int32) = 0
    · rw [if_pos c16] at h
      refine Runs.brT (P := (0 : Int32) = 0) (a := 109) (b := 61) (L := [.ref 67, .int 0]) (S := []) (z := (zS (up2 I8 67 12 v7) J tg)) rfl c16 ?_
      subst h
      exact Runs.rt rfl
    · rw [if_neg c16] at h
      refine Runs.brF (P := (0 : Int32) = 0) (a := 109) (b := 61) (L := [.ref 67, .int 0]) (S := []) (z := (zS (up2 I8 67 12 v7) J tg)) rfl c16 ?_
      refine Runs.sN 3 (c' := (67, [.ref 67, .int 0], [.int 9, .int v7], (zS (up2 I8 67 12 v7) J tg))) rfl ?_
      by_cases c17 : v7 = 9
      · rw [if_pos c17] at h
        refine Runs.brT (P := v7 = 9) (a := 79) (b := 70) (L := [.ref 67, .int 0]) (S := []) (z := (zS (up2 I8 67 12 v7) J tg)) rfl c17 ?_
        refine Runs.sN 4 (c' := (86, [.ref 67, .int 0], [.int 9, .int v7, .ref 67], (zS (up2 I8 67 12 v7) J tg))) rfl ?_
        by_cases c18 : v7 = 9
        · rw [if_pos c18] at h
          refine Runs.brT (P := v7 = 9) (a := 89) (b := 94) (L := [.ref 67, .int 0]) (S := [.ref 67]) (z := (zS (up2 I8 67 12 v7) J tg)) rfl c18 ?_
          refine Runs.sN 9 (c' := (109, [.ref 67, .int 0], [], (zS (up2 (up2 (up2 I8 67 12 v7) 67 12 10) 67 15 ((I8 67 15) + 1)) J tg))) rfl ?_
          subst h
          exact Runs.rt rfl
        · rw [if_neg c18] at h
          refine Runs.brF (P := v7 = 9) (a := 89) (b := 94) (L := [.ref 67, .int 0]) (S := [.ref 67]) (z := (zS (up2 I8 67 12 v7) J tg)) rfl c18 ?_
          refine Runs.sN 8 (c' := (109, [.ref 67, .int 0], [], (zS (up2 (up2 (up2 I8 67 12 v7) 67 12 12) 67 15 ((I8 67 15) + 1)) J tg))) rfl ?_
          subst h
          exact Runs.rt rfl
      · rw [if_neg c17] at h
        refine Runs.brF (P := v7 = 9) (a := 79) (b := 70) (L := [.ref 67, .int 0]) (S := []) (z := (zS (up2 I8 67 12 v7) J tg)) rfl c17 ?_
        refine Runs.sN 3 (c' := (76, [.ref 67, .int 0], [.int 11, .int v7], (zS (up2 I8 67 12 v7) J tg))) rfl ?_
        by_cases c19 : v7 = 11
        · rw [if_pos c19] at h
          refine Runs.brT (P := v7 = 11) (a := 79) (b := 109) (L := [.ref 67, .int 0]) (S := []) (z := (zS (up2 I8 67 12 v7) J tg)) rfl c19 ?_
          refine Runs.sN 4 (c' := (86, [.ref 67, .int 0], [.int 9, .int v7, .ref 67], (zS (up2 I8 67 12 v7) J tg))) rfl ?_
          by_cases c20 : v7 = 9
          · rw [if_pos c20] at h
            refine Runs.brT (P := v7 = 9) (a := 89) (b := 94) (L := [.ref 67, .int 0]) (S := [.ref 67]) (z := (zS (up2 I8 67 12 v7) J tg)) rfl c20 ?_
            refine Runs.sN 9 (c' := (109, [.ref 67, .int 0], [], (zS (up2 (up2 (up2 I8 67 12 v7) 67 12 10) 67 15 ((I8 67 15) + 1)) J tg))) rfl ?_
            subst h
            exact Runs.rt rfl
          · rw [if_neg c20] at h
            refine Runs.brF (P := v7 = 9) (a := 89) (b := 94) (L := [.ref 67, .int 0]) (S := [.ref 67]) (z := (zS (up2 I8 67 12 v7) J tg)) rfl c20 ?_
            refine Runs.sN 8 (c' := (109, [.ref 67, .int 0], [], (zS (up2 (up2 (up2 I8 67 12 v7) 67 12 12) 67 15 ((I8 67 15) + 1)) J tg))) rfl ?_
            subst h
            exact Runs.rt rfl
        · rw [if_neg c19] at h
          refine Runs.brF (P := v7 = 11) (a := 79) (b := 109) (L := [.ref 67, .int 0]) (S := []) (z := (zS (up2 I8 67 12 v7) J tg)) rfl c19 ?_
          subst h
          exact Runs.rt rfl
  · rw [if_neg c13] at h
    refine Runs.brF (P := (I 67 2) ≤ ((I 67 14) + 1)) (a := 39) (b := 21) (L := [.ref 67, vU]) (S := []) (z := (zS (up2 I 67 15 ((I 67 14) + 1)) J tg)) rfl c13 ?_
    refine Runs.sN 4 (c' := (29, [.ref 67, vU], [.int ((I 67 14) + 1), .ref 68], (zS (up2 I 67 15 ((I 67 14) + 1)) J tg))) rfl ?_
    obtain ⟨c21, h⟩ := h
    refine Runs.to (c' := (30, [.ref 67, vU], [.int (I 68 (((I 67 14) + 1).toNatClampNeg))], (zS (up2 I 67 15 ((I 67 14) + 1)) J tg))) (Runs.bld rfl (show (68 : Nat) < 114 by decide) rfl c21) ?_
    refine Runs.sN 1 (c' := (32, [.ref 67, vU], [.int 61, .int (I 68 (((I 67 14) + 1).toNatClampNeg))], (zS (up2 I 67 15 ((I 67 14) + 1)) J tg))) rfl ?_
    by_cases c22 : (I 68 (((I 67 14) + 1).toNatClampNeg)) = 61
    · rw [if_pos c22] at h
      refine Runs.brT (P := (I 68 (((I 67 14) + 1).toNatClampNeg)) = 61) (a := 35) (b := 39) (L := [.ref 67, vU]) (S := []) (z := (zS (up2 I 67 15 ((I 67 14) + 1)) J tg)) rfl c22 ?_
      refine Runs.sN 8 (c' := (50, [.ref 67, .int 1], [.int (I 67 14), .ref 68, .ref 67], (zS (up2 I 67 15 ((I 67 14) + 1)) J tg))) rfl ?_
      obtain ⟨c23, h⟩ := h
      refine Runs.to (c' := (51, [.ref 67, .int 1], [.int (I 68 ((I 67 14).toNatClampNeg)), .ref 67], (zS (up2 I 67 15 ((I 67 14) + 1)) J tg))) (Runs.bld rfl (show (68 : Nat) < 114 by decide) rfl c23) ?_
      obtain ⟨v9, I10, c24, h⟩ := h
      refine Runs.cl (cm := 79) (as := [.int (I 68 ((I 67 14).toNatClampNeg))]) (rest := [.ref 67]) (r1 := ((some (.int v9)), (zS I10 J tg))) rfl (Nat.le_of_ble_eq_true rfl) c24 ?_
      refine Runs.as (c' := (54, [.ref 67, .int 1], [.int v9, .ref 67], (zS I10 J tg))) rfl ?_
      refine Runs.sN 2 (c' := (58, [.ref 67, .int 1], [.int 1], (zS (up2 I10 67 12 v9) J tg))) rfl ?_
      by_cases c25 : (1 : Int32) = 0
      · rw [if_pos c25] at h
        refine Runs.brT (P := (1 : Int32) = 0) (a := 109) (b := 61) (L := [.ref 67, .int 1]) (S := []) (z := (zS (up2 I10 67 12 v9) J tg)) rfl c25 ?_
        subst h
        exact Runs.rt rfl
      · rw [if_neg c25] at h
        refine Runs.brF (P := (1 : Int32) = 0) (a := 109) (b := 61) (L := [.ref 67, .int 1]) (S := []) (z := (zS (up2 I10 67 12 v9) J tg)) rfl c25 ?_
        refine Runs.sN 3 (c' := (67, [.ref 67, .int 1], [.int 9, .int v9], (zS (up2 I10 67 12 v9) J tg))) rfl ?_
        by_cases c26 : v9 = 9
        · rw [if_pos c26] at h
          refine Runs.brT (P := v9 = 9) (a := 79) (b := 70) (L := [.ref 67, .int 1]) (S := []) (z := (zS (up2 I10 67 12 v9) J tg)) rfl c26 ?_
          refine Runs.sN 4 (c' := (86, [.ref 67, .int 1], [.int 9, .int v9, .ref 67], (zS (up2 I10 67 12 v9) J tg))) rfl ?_
          by_cases c27 : v9 = 9
          · rw [if_pos c27] at h
            refine Runs.brT (P := v9 = 9) (a := 89) (b := 94) (L := [.ref 67, .int 1]) (S := [.ref 67]) (z := (zS (up2 I10 67 12 v9) J tg)) rfl c27 ?_
            refine Runs.sN 9 (c' := (109, [.ref 67, .int 1], [], (zS (up2 (up2 (up2 I10 67 12 v9) 67 12 10) 67 15 ((I10 67 15) + 1)) J tg))) rfl ?_
            subst h
            exact Runs.rt rfl
          · rw [if_neg c27] at h
            refine Runs.brF (P := v9 = 9) (a := 89) (b := 94) (L := [.ref 67, .int 1]) (S := [.ref 67]) (z := (zS (up2 I10 67 12 v9) J tg)) rfl c27 ?_
            refine Runs.sN 8 (c' := (109, [.ref 67, .int 1], [], (zS (up2 (up2 (up2 I10 67 12 v9) 67 12 12) 67 15 ((I10 67 15) + 1)) J tg))) rfl ?_
            subst h
            exact Runs.rt rfl
        · rw [if_neg c26] at h
          refine Runs.brF (P := v9 = 9) (a := 79) (b := 70) (L := [.ref 67, .int 1]) (S := []) (z := (zS (up2 I10 67 12 v9) J tg)) rfl c26 ?_
          refine Runs.sN 3 (c' := (76, [.ref 67, .int 1], [.int 11, .int v9], (zS (up2 I10 67 12 v9) J tg))) rfl ?_
          by_cases c28 : v9 = 11
          · rw [if_pos c28] at h
            refine Runs.brT (P := v9 = 11) (a := 79) (b := 109) (L := [.ref 67, .int 1]) (S := []) (z := (zS (up2 I10 67 12 v9) J tg)) rfl c28 ?_
            refine Runs.sN 4 (c' := (86, [.ref 67, .int 1], [.int 9, .int v9, .ref 67], (zS (up2 I10 67 12 v9) J tg))) rfl ?_
            by_cases c29 : v9 = 9
            · rw [if_pos c29] at h
              refine Runs.brT (P := v9 = 9) (a := 89) (b := 94) (L := [.ref 67, .int 1]) (S := [.ref 67]) (z := (zS (up2 I10 67 12 v9) J tg)) rfl c29 ?_
              refine Runs.sN 9 (c' := (109, [.ref 67, .int 1], [], (zS (up2 (up2 (up2 I10 67 12 v9) 67 12 10) 67 15 ((I10 67 15) + 1)) J tg))) rfl ?_
              subst h
              exact Runs.rt rfl
            · rw [if_neg c29] at h
              refine Runs.brF (P := v9 = 9) (a := 89) (b := 94) (L := [.ref 67, .int 1]) (S := [.ref 67]) (z := (zS (up2 I10 67 12 v9) J tg)) rfl c29 ?_
              refine Runs.sN 8 (c' := (109, [.ref 67, .int 1], [], (zS (up2 (up2 (up2 I10 67 12 v9) 67 12 12) 67 15 ((I10 67 15) + 1)) J tg))) rfl ?_
              subst h
              exact Runs.rt rfl
          · rw [if_neg c28] at h
            refine Runs.brF (P := v9 = 11) (a := 79) (b := 109) (L := [.ref 67, .int 1]) (S := []) (z := (zS (up2 I10 67 12 v9) J tg)) rfl c28 ?_
            subst h
            exact Runs.rt rfl
    · rw [if_neg c22] at h
      refine Runs.brF (P := (I 68 (((I 67 14) + 1).toNatClampNeg)) = 61) (a := 35) (b := 39) (L := [.ref 67, vU]) (S := []) (z := (zS (up2 I 67 15 ((I 67 14) + 1)) J tg)) rfl c22 ?_
      refine Runs.sN 7 (c' := (50, [.ref 67, .int 0], [.int (I 67 14), .ref 68, .ref 67], (zS (up2 I 67 15 ((I 67 14) + 1)) J tg))) rfl ?_
      obtain ⟨c30, h⟩ := h
      refine Runs.to (c' := (51, [.ref 67, .int 0], [.int (I 68 ((I 67 14).toNatClampNeg)), .ref 67], (zS (up2 I 67 15 ((I 67 14) + 1)) J tg))) (Runs.bld rfl (show (68 : Nat) < 114 by decide) rfl c30) ?_
      obtain ⟨v11, I12, c31, h⟩ := h
      refine Runs.cl (cm := 79) (as := [.int (I 68 ((I 67 14).toNatClampNeg))]) (rest := [.ref 67]) (r1 := ((some (.int v11)), (zS I12 J tg))) rfl (Nat.le_of_ble_eq_true rfl) c31 ?_
      refine Runs.as (c' := (54, [.ref 67, .int 0], [.int v11, .ref 67], (zS I12 J tg))) rfl ?_
      refine Runs.sN 2 (c' := (58, [.ref 67, .int 0], [.int 0], (zS (up2 I12 67 12 v11) J tg))) rfl ?_
      by_cases c32 : (0 : Int32) = 0
      · rw [if_pos c32] at h
        refine Runs.brT (P := (0 : Int32) = 0) (a := 109) (b := 61) (L := [.ref 67, .int 0]) (S := []) (z := (zS (up2 I12 67 12 v11) J tg)) rfl c32 ?_
        subst h
        exact Runs.rt rfl
      · rw [if_neg c32] at h
        refine Runs.brF (P := (0 : Int32) = 0) (a := 109) (b := 61) (L := [.ref 67, .int 0]) (S := []) (z := (zS (up2 I12 67 12 v11) J tg)) rfl c32 ?_
        refine Runs.sN 3 (c' := (67, [.ref 67, .int 0], [.int 9, .int v11], (zS (up2 I12 67 12 v11) J tg))) rfl ?_
        by_cases c33 : v11 = 9
        · rw [if_pos c33] at h
          refine Runs.brT (P := v11 = 9) (a := 79) (b := 70) (L := [.ref 67, .int 0]) (S := []) (z := (zS (up2 I12 67 12 v11) J tg)) rfl c33 ?_
          refine Runs.sN 4 (c' := (86, [.ref 67, .int 0], [.int 9, .int v11, .ref 67], (zS (up2 I12 67 12 v11) J tg))) rfl ?_
          by_cases c34 : v11 = 9
          · rw [if_pos c34] at h
            refine Runs.brT (P := v11 = 9) (a := 89) (b := 94) (L := [.ref 67, .int 0]) (S := [.ref 67]) (z := (zS (up2 I12 67 12 v11) J tg)) rfl c34 ?_
            refine Runs.sN 9 (c' := (109, [.ref 67, .int 0], [], (zS (up2 (up2 (up2 I12 67 12 v11) 67 12 10) 67 15 ((I12 67 15) + 1)) J tg))) rfl ?_
            subst h
            exact Runs.rt rfl
          · rw [if_neg c34] at h
            refine Runs.brF (P := v11 = 9) (a := 89) (b := 94) (L := [.ref 67, .int 0]) (S := [.ref 67]) (z := (zS (up2 I12 67 12 v11) J tg)) rfl c34 ?_
            refine Runs.sN 8 (c' := (109, [.ref 67, .int 0], [], (zS (up2 (up2 (up2 I12 67 12 v11) 67 12 12) 67 15 ((I12 67 15) + 1)) J tg))) rfl ?_
            subst h
            exact Runs.rt rfl
        · rw [if_neg c33] at h
          refine Runs.brF (P := v11 = 9) (a := 79) (b := 70) (L := [.ref 67, .int 0]) (S := []) (z := (zS (up2 I12 67 12 v11) J tg)) rfl c33 ?_
          refine Runs.sN 3 (c' := (76, [.ref 67, .int 0], [.int 11, .int v11], (zS (up2 I12 67 12 v11) J tg))) rfl ?_
          by_cases c35 : v11 = 11
          · rw [if_pos c35] at h
            refine Runs.brT (P := v11 = 11) (a := 79) (b := 109) (L := [.ref 67, .int 0]) (S := []) (z := (zS (up2 I12 67 12 v11) J tg)) rfl c35 ?_
            refine Runs.sN 4 (c' := (86, [.ref 67, .int 0], [.int 9, .int v11, .ref 67], (zS (up2 I12 67 12 v11) J tg))) rfl ?_
            by_cases c36 : v11 = 9
            · rw [if_pos c36] at h
              refine Runs.brT (P := v11 = 9) (a := 89) (b := 94) (L := [.ref 67, .int 0]) (S := [.ref 67]) (z := (zS (up2 I12 67 12 v11) J tg)) rfl c36 ?_
              refine Runs.sN 9 (c' := (109, [.ref 67, .int 0], [], (zS (up2 (up2 (up2 I12 67 12 v11) 67 12 10) 67 15 ((I12 67 15) + 1)) J tg))) rfl ?_
              subst h
              exact Runs.rt rfl
            · rw [if_neg c36] at h
              refine Runs.brF (P := v11 = 9) (a := 89) (b := 94) (L := [.ref 67, .int 0]) (S := [.ref 67]) (z := (zS (up2 I12 67 12 v11) J tg)) rfl c36 ?_
              refine Runs.sN 8 (c' := (109, [.ref 67, .int 0], [], (zS (up2 (up2 (up2 I12 67 12 v11) 67 12 12) 67 15 ((I12 67 15) + 1)) J tg))) rfl ?_
              subst h
              exact Runs.rt rfl
          · rw [if_neg c35] at h
            refine Runs.brF (P := v11 = 11) (a := 79) (b := 109) (L := [.ref 67, .int 0]) (S := []) (z := (zS (up2 I12 67 12 v11) J tg)) rfl c35 ?_
            subst h
            exact Runs.rt rfl
-- X8_startClause t47
theorem sg_80t47 {L d : Nat} {xs : Nat → Int32} (I : Nat → Nat → Int32) (J : Nat → Nat → Int64) (tg : Option Nat) {r : Option Value × SS} (h : ((if (I 67 12) = 0 then (r = (some (.int 0), (zS I J (some 47)))) else ((if (I 67 12) = 4 then (Runs (GW L xs) (d + 1) 80 (36, [.ref 67], [], (zS I J (some 47))) r) else ((if (I 67 12) = 5 then (Runs (GW L xs) (d + 1) 80 (36, [.ref 67], [], (zS I J (some 47))) r) else ((if (I 67 12) = 6 then (Runs (GW L xs) (d + 1) 80 (36, [.ref 67], [], (zS I J (some 47))) r) else (r = (some (.int 1), (zS I J (some 47))))))))))))) : Runs (GW L xs) (d + 1) 80 (0, [.ref 67], [], (zS I J (some 47))) r := by
  refine Runs.sN 2 (c' := (4, [.ref 67], [.int (I 67 12)], (zS I J (some 47)))) rfl ?_
  by_cases c8 : (I 67 12) = 0
  · rw [if_pos c8] at h
    refine Runs.brT (P := (I 67 12) = 0) (a := 7) (b := 9) (L := [.ref 67]) (S := []) (z := (zS I J (some 47))) rfl c8 ?_
    refine Runs.sN 1 (c' := (8, [.ref 67], [.int 0], (zS I J (some 47)))) rfl ?_
    subst h
    exact Runs.rt rfl
  · rw [if_neg c8] at h
    refine Runs.brF (P := (I 67 12) = 0) (a := 7) (b := 9) (L := [.ref 67]) (S := []) (z := (zS I J (some 47))) rfl c8 ?_
    refine Runs.sN 3 (c' := (14, [.ref 67], [.int 4, .int (I 67 12)], (zS I J (some 47)))) rfl ?_
    by_cases c9 : (I 67 12) = 4
    · rw [if_pos c9] at h
      refine Runs.brT (P := (I 67 12) = 4) (a := 36) (b := 17) (L := [.ref 67]) (S := []) (z := (zS I J (some 47))) rfl c9 ?_
      exact h
    · rw [if_neg c9] at h
      refine Runs.brF (P := (I 67 12) = 4) (a := 36) (b := 17) (L := [.ref 67]) (S := []) (z := (zS I J (some 47))) rfl c9 ?_
      refine Runs.sN 3 (c' := (22, [.ref 67], [.int 5, .int (I 67 12)], (zS I J (some 47)))) rfl ?_
      by_cases c10 : (I 67 12) = 5
      · rw [if_pos c10] at h
        refine Runs.brT (P := (I 67 12) = 5) (a := 36) (b := 25) (L := [.ref 67]) (S := []) (z := (zS I J (some 47))) rfl c10 ?_
        exact h
      · rw [if_neg c10] at h
        refine Runs.brF (P := (I 67 12) = 5) (a := 36) (b := 25) (L := [.ref 67]) (S := []) (z := (zS I J (some 47))) rfl c10 ?_
        refine Runs.sN 3 (c' := (31, [.ref 67], [.int 6, .int (I 67 12)], (zS I J (some 47)))) rfl ?_
        by_cases c11 : (I 67 12) = 6
        · rw [if_pos c11] at h
          refine Runs.brT (P := (I 67 12) = 6) (a := 36) (b := 34) (L := [.ref 67]) (S := []) (z := (zS I J (some 47))) rfl c11 ?_
          exact h
        · rw [if_neg c11] at h
          refine Runs.brF (P := (I 67 12) = 6) (a := 36) (b := 34) (L := [.ref 67]) (S := []) (z := (zS I J (some 47))) rfl c11 ?_
          refine Runs.sN 1 (c' := (35, [.ref 67], [.int 1], (zS I J (some 47)))) rfl ?_
          subst h
          exact Runs.rt rfl
theorem sg_80t47_36 {L d : Nat} {xs : Nat → Int32} (I : Nat → Nat → Int32) (J : Nat → Nat → Int64) (tg : Option Nat) {r : Option Value × SS} (h : ((if (I 67 12) = 6 then (∃ (v1 : Int32) (I2 : Nat → Nat → Int32), Runs (GW L xs) d 28 (0, [.ref 47], [], (zS I J (some 47))) ((some (.int v1)), (zS I2 J (some 47))) ∧ (if v1 = 0 then (Runs (GW L xs) (d + 1) 80 (57, [.ref 67], [], (zS I2 J (some 47))) r) else (r = (some (.int 4), (zS I2 J (some 47)))))) else (Runs (GW L xs) (d + 1) 80 (57, [.ref 67], [], (zS I J (some 47))) r)))) : Runs (GW L xs) (d + 1) 80 (36, [.ref 67], [], (zS I J (some 47))) r := by
  refine Runs.sN 3 (c' := (42, [.ref 67], [.int 6, .int (I 67 12)], (zS I J (some 47)))) rfl ?_
  by_cases c3 : (I 67 12) = 6
  · rw [if_pos c3] at h
    refine Runs.brT (P := (I 67 12) = 6) (a := 45) (b := 57) (L := [.ref 67]) (S := []) (z := (zS I J (some 47))) rfl c3 ?_
    refine Runs.sN 2 (c' := (49, [.ref 67], [.ref 47], (zS I J (some 47)))) rfl ?_
    obtain ⟨v1, I2, c4, h⟩ := h
    refine Runs.cl (cm := 28) (as := [.ref 47]) (rest := []) (r1 := ((some (.int v1)), (zS I2 J (some 47)))) rfl (Nat.le_of_ble_eq_true rfl) c4 ?_
    refine Runs.as (c' := (52, [.ref 67], [.int v1], (zS I2 J (some 47)))) rfl ?_
    by_cases c5 : v1 = 0
    · rw [if_pos c5] at h
      refine Runs.brT (P := v1 = 0) (a := 57) (b := 55) (L := [.ref 67]) (S := []) (z := (zS I2 J (some 47))) rfl c5 ?_
      exact h
    · rw [if_neg c5] at h
      refine Runs.brF (P := v1 = 0) (a := 57) (b := 55) (L := [.ref 67]) (S := []) (z := (zS I2 J (some 47))) rfl c5 ?_
      refine Runs.sN 1 (c' := (56, [.ref 67], [.int 4], (zS I2 J (some 47)))) rfl ?_
      subst h
      exact Runs.rt rfl
  · rw [if_neg c3] at h
    refine Runs.brF (P := (I 67 12) = 6) (a := 45) (b := 57) (L := [.ref 67]) (S := []) (z := (zS I J (some 47))) rfl c3 ?_
    exact h
theorem sg_80t47_57 {L d : Nat} {xs : Nat → Int32} (I : Nat → Nat → Int32) (J : Nat → Nat → Int64) (tg : Option Nat) {r : Option Value × SS} (h : (∃ (v1 : Int32) (I2 : Nat → Nat → Int32), Runs (GW L xs) d 22 (0, [.ref 47], [], (zS I J (some 47))) ((some (.int v1)), (zS I2 J (some 47))) ∧ (if v1 = 0 then (∃ (I3 : Nat → Nat → Int32), Runs (GW L xs) d 23 (0, [.ref 47, .int (I2 67 12)], [], (zS I2 J (some 47))) (none, (zS I3 J (some 47))) ∧ (if (I3 67 12) = 6 then (r = (some (.int 0), (zS (up2 (up2 (up2 I3 67 7 1) 67 8 2) 67 7 2) J (some 47)))) else (r = (some (.int 0), (zS (up2 I3 67 7 1) J (some 47)))))) else (r = (some (.int 6), (zS I2 J (some 47))))))) : Runs (GW L xs) (d + 1) 80 (57, [.ref 67], [], (zS I J (some 47))) r := by
  refine Runs.sN 2 (c' := (61, [.ref 67], [.ref 47], (zS I J (some 47)))) rfl ?_
  obtain ⟨v1, I2, c4, h⟩ := h
  refine Runs.cl (cm := 22) (as := [.ref 47]) (rest := []) (r1 := ((some (.int v1)), (zS I2 J (some 47)))) rfl (Nat.le_of_ble_eq_true rfl) c4 ?_
  refine Runs.as (c' := (64, [.ref 67], [.int v1], (zS I2 J (some 47)))) rfl ?_
  by_cases c5 : v1 = 0
  · rw [if_pos c5] at h
    refine Runs.brT (P := v1 = 0) (a := 70) (b := 67) (L := [.ref 67]) (S := []) (z := (zS I2 J (some 47))) rfl c5 ?_
    refine Runs.sN 4 (c' := (78, [.ref 67], [.int (I2 67 12), .ref 47], (zS I2 J (some 47)))) rfl ?_
    obtain ⟨I3, c6, h⟩ := h
    refine Runs.cl (cm := 23) (as := [.ref 47, .int (I2 67 12)]) (rest := []) (r1 := (none, (zS I3 J (some 47)))) rfl (Nat.le_of_ble_eq_true rfl) c6 ?_
    refine Runs.as (c' := (81, [.ref 67], [], (zS I3 J (some 47)))) rfl ?_
    refine Runs.sN 6 (c' := (92, [.ref 67], [.int 6, .int (I3 67 12)], (zS (up2 I3 67 7 1) J (some 47)))) rfl ?_
    by_cases c7 : (I3 67 12) = 6
    · rw [if_pos c7] at h
      refine Runs.brT (P := (I3 67 12) = 6) (a := 95) (b := 105) (L := [.ref 67]) (S := []) (z := (zS (up2 I3 67 7 1) J (some 47))) rfl c7 ?_
      refine Runs.sN 7 (c' := (106, [.ref 67], [.int 0], (zS (up2 (up2 (up2 I3 67 7 1) 67 8 2) 67 7 2) J (some 47)))) rfl ?_
      subst h
      exact Runs.rt rfl
    · rw [if_neg c7] at h
      refine Runs.brF (P := (I3 67 12) = 6) (a := 95) (b := 105) (L := [.ref 67]) (S := []) (z := (zS (up2 I3 67 7 1) J (some 47))) rfl c7 ?_
      refine Runs.sN 1 (c' := (106, [.ref 67], [.int 0], (zS (up2 I3 67 7 1) J (some 47)))) rfl ?_
      subst h
      exact Runs.rt rfl
  · rw [if_neg c5] at h
    refine Runs.brF (P := v1 = 0) (a := 70) (b := 67) (L := [.ref 67]) (S := []) (z := (zS I2 J (some 47))) rfl c5 ?_
    refine Runs.sN 1 (c' := (69, [.ref 67], [.int 6], (zS I2 J (some 47)))) rfl ?_
    subst h
    exact Runs.rt rfl
-- X8_startClause t51
theorem sg_80t51 {L d : Nat} {xs : Nat → Int32} (I : Nat → Nat → Int32) (J : Nat → Nat → Int64) (tg : Option Nat) {r : Option Value × SS} (h : ((if (I 67 12) = 0 then (r = (some (.int 0), (zS I J (some 51)))) else ((if (I 67 12) = 4 then (Runs (GW L xs) (d + 1) 80 (36, [.ref 67], [], (zS I J (some 51))) r) else ((if (I 67 12) = 5 then (Runs (GW L xs) (d + 1) 80 (36, [.ref 67], [], (zS I J (some 51))) r) else ((if (I 67 12) = 6 then (Runs (GW L xs) (d + 1) 80 (36, [.ref 67], [], (zS I J (some 51))) r) else (r = (some (.int 1), (zS I J (some 51))))))))))))) : Runs (GW L xs) (d + 1) 80 (0, [.ref 67], [], (zS I J (some 51))) r := by
  refine Runs.sN 2 (c' := (4, [.ref 67], [.int (I 67 12)], (zS I J (some 51)))) rfl ?_
  by_cases c8 : (I 67 12) = 0
  · rw [if_pos c8] at h
    refine Runs.brT (P := (I 67 12) = 0) (a := 7) (b := 9) (L := [.ref 67]) (S := []) (z := (zS I J (some 51))) rfl c8 ?_
    refine Runs.sN 1 (c' := (8, [.ref 67], [.int 0], (zS I J (some 51)))) rfl ?_
    subst h
    exact Runs.rt rfl
  · rw [if_neg c8] at h
    refine Runs.brF (P := (I 67 12) = 0) (a := 7) (b := 9) (L := [.ref 67]) (S := []) (z := (zS I J (some 51))) rfl c8 ?_
    refine Runs.sN 3 (c' := (14, [.ref 67], [.int 4, .int (I 67 12)], (zS I J (some 51)))) rfl ?_
    by_cases c9 : (I 67 12) = 4
    · rw [if_pos c9] at h
      refine Runs.brT (P := (I 67 12) = 4) (a := 36) (b := 17) (L := [.ref 67]) (S := []) (z := (zS I J (some 51))) rfl c9 ?_
      exact h
    · rw [if_neg c9] at h
      refine Runs.brF (P := (I 67 12) = 4) (a := 36) (b := 17) (L := [.ref 67]) (S := []) (z := (zS I J (some 51))) rfl c9 ?_
      refine Runs.sN 3 (c' := (22, [.ref 67], [.int 5, .int (I 67 12)], (zS I J (some 51)))) rfl ?_
      by_cases c10 : (I 67 12) = 5
      · rw [if_pos c10] at h
        refine Runs.brT (P := (I 67 12) = 5) (a := 36) (b := 25) (L := [.ref 67]) (S := []) (z := (zS I J (some 51))) rfl c10 ?_
        exact h
      · rw [if_neg c10] at h
        refine Runs.brF (P := (I 67 12) = 5) (a := 36) (b := 25) (L := [.ref 67]) (S := []) (z := (zS I J (some 51))) rfl c10 ?_
        refine Runs.sN 3 (c' := (31, [.ref 67], [.int 6, .int (I 67 12)], (zS I J (some 51)))) rfl ?_
        by_cases c11 : (I 67 12) = 6
        · rw [if_pos c11] at h
          refine Runs.brT (P := (I 67 12) = 6) (a := 36) (b := 34) (L := [.ref 67]) (S := []) (z := (zS I J (some 51))) rfl c11 ?_
          exact h
        · rw [if_neg c11] at h
          refine Runs.brF (P := (I 67 12) = 6) (a := 36) (b := 34) (L := [.ref 67]) (S := []) (z := (zS I J (some 51))) rfl c11 ?_
          refine Runs.sN 1 (c' := (35, [.ref 67], [.int 1], (zS I J (some 51)))) rfl ?_
          subst h
          exact Runs.rt rfl
theorem sg_80t51_36 {L d : Nat} {xs : Nat → Int32} (I : Nat → Nat → Int32) (J : Nat → Nat → Int64) (tg : Option Nat) {r : Option Value × SS} (h : ((if (I 67 12) = 6 then (∃ (v1 : Int32) (I2 : Nat → Nat → Int32), Runs (GW L xs) d 28 (0, [.ref 51], [], (zS I J (some 51))) ((some (.int v1)), (zS I2 J (some 51))) ∧ (if v1 = 0 then (Runs (GW L xs) (d + 1) 80 (57, [.ref 67], [], (zS I2 J (some 51))) r) else (r = (some (.int 4), (zS I2 J (some 51)))))) else (Runs (GW L xs) (d + 1) 80 (57, [.ref 67], [], (zS I J (some 51))) r)))) : Runs (GW L xs) (d + 1) 80 (36, [.ref 67], [], (zS I J (some 51))) r := by
  refine Runs.sN 3 (c' := (42, [.ref 67], [.int 6, .int (I 67 12)], (zS I J (some 51)))) rfl ?_
  by_cases c3 : (I 67 12) = 6
  · rw [if_pos c3] at h
    refine Runs.brT (P := (I 67 12) = 6) (a := 45) (b := 57) (L := [.ref 67]) (S := []) (z := (zS I J (some 51))) rfl c3 ?_
    refine Runs.sN 2 (c' := (49, [.ref 67], [.ref 51], (zS I J (some 51)))) rfl ?_
    obtain ⟨v1, I2, c4, h⟩ := h
    refine Runs.cl (cm := 28) (as := [.ref 51]) (rest := []) (r1 := ((some (.int v1)), (zS I2 J (some 51)))) rfl (Nat.le_of_ble_eq_true rfl) c4 ?_
    refine Runs.as (c' := (52, [.ref 67], [.int v1], (zS I2 J (some 51)))) rfl ?_
    by_cases c5 : v1 = 0
    · rw [if_pos c5] at h
      refine Runs.brT (P := v1 = 0) (a := 57) (b := 55) (L := [.ref 67]) (S := []) (z := (zS I2 J (some 51))) rfl c5 ?_
      exact h
    · rw [if_neg c5] at h
      refine Runs.brF (P := v1 = 0) (a := 57) (b := 55) (L := [.ref 67]) (S := []) (z := (zS I2 J (some 51))) rfl c5 ?_
      refine Runs.sN 1 (c' := (56, [.ref 67], [.int 4], (zS I2 J (some 51)))) rfl ?_
      subst h
      exact Runs.rt rfl
  · rw [if_neg c3] at h
    refine Runs.brF (P := (I 67 12) = 6) (a := 45) (b := 57) (L := [.ref 67]) (S := []) (z := (zS I J (some 51))) rfl c3 ?_
    exact h
theorem sg_80t51_57 {L d : Nat} {xs : Nat → Int32} (I : Nat → Nat → Int32) (J : Nat → Nat → Int64) (tg : Option Nat) {r : Option Value × SS} (h : (∃ (v1 : Int32) (I2 : Nat → Nat → Int32), Runs (GW L xs) d 22 (0, [.ref 51], [], (zS I J (some 51))) ((some (.int v1)), (zS I2 J (some 51))) ∧ (if v1 = 0 then (∃ (I3 : Nat → Nat → Int32), Runs (GW L xs) d 23 (0, [.ref 51, .int (I2 67 12)], [], (zS I2 J (some 51))) (none, (zS I3 J (some 51))) ∧ (if (I3 67 12) = 6 then (r = (some (.int 0), (zS (up2 (up2 (up2 I3 67 7 1) 67 8 2) 67 7 2) J (some 51)))) else (r = (some (.int 0), (zS (up2 I3 67 7 1) J (some 51)))))) else (r = (some (.int 6), (zS I2 J (some 51))))))) : Runs (GW L xs) (d + 1) 80 (57, [.ref 67], [], (zS I J (some 51))) r := by
  refine Runs.sN 2 (c' := (61, [.ref 67], [.ref 51], (zS I J (some 51)))) rfl ?_
  obtain ⟨v1, I2, c4, h⟩ := h
  refine Runs.cl (cm := 22) (as := [.ref 51]) (rest := []) (r1 := ((some (.int v1)), (zS I2 J (some 51)))) rfl (Nat.le_of_ble_eq_true rfl) c4 ?_
  refine Runs.as (c' := (64, [.ref 67], [.int v1], (zS I2 J (some 51)))) rfl ?_
  by_cases c5 : v1 = 0
  · rw [if_pos c5] at h
    refine Runs.brT (P := v1 = 0) (a := 70) (b := 67) (L := [.ref 67]) (S := []) (z := (zS I2 J (some 51))) rfl c5 ?_
    refine Runs.sN 4 (c' := (78, [.ref 67], [.int (I2 67 12), .ref 51], (zS I2 J (some 51)))) rfl ?_
    obtain ⟨I3, c6, h⟩ := h
    refine Runs.cl (cm := 23) (as := [.ref 51, .int (I2 67 12)]) (rest := []) (r1 := (none, (zS I3 J (some 51)))) rfl (Nat.le_of_ble_eq_true rfl) c6 ?_
    refine Runs.as (c' := (81, [.ref 67], [], (zS I3 J (some 51)))) rfl ?_
    refine Runs.sN 6 (c' := (92, [.ref 67], [.int 6, .int (I3 67 12)], (zS (up2 I3 67 7 1) J (some 51)))) rfl ?_
    by_cases c7 : (I3 67 12) = 6
    · rw [if_pos c7] at h
      refine Runs.brT (P := (I3 67 12) = 6) (a := 95) (b := 105) (L := [.ref 67]) (S := []) (z := (zS (up2 I3 67 7 1) J (some 51))) rfl c7 ?_
      refine Runs.sN 7 (c' := (106, [.ref 67], [.int 0], (zS (up2 (up2 (up2 I3 67 7 1) 67 8 2) 67 7 2) J (some 51)))) rfl ?_
      subst h
      exact Runs.rt rfl
    · rw [if_neg c7] at h
      refine Runs.brF (P := (I3 67 12) = 6) (a := 95) (b := 105) (L := [.ref 67]) (S := []) (z := (zS (up2 I3 67 7 1) J (some 51))) rfl c7 ?_
      refine Runs.sN 1 (c' := (106, [.ref 67], [.int 0], (zS (up2 I3 67 7 1) J (some 51)))) rfl ?_
      subst h
      exact Runs.rt rfl
  · rw [if_neg c5] at h
    refine Runs.brF (P := v1 = 0) (a := 70) (b := 67) (L := [.ref 67]) (S := []) (z := (zS I2 J (some 51))) rfl c5 ?_
    refine Runs.sN 1 (c' := (69, [.ref 67], [.int 6], (zS I2 J (some 51)))) rfl ?_
    subst h
    exact Runs.rt rfl
-- X8_startClause t55
theorem sg_80t55 {L d : Nat} {xs : Nat → Int32} (I : Nat → Nat → Int32) (J : Nat → Nat → Int64) (tg : Option Nat) {r : Option Value × SS} (h : ((if (I 67 12) = 0 then (r = (some (.int 0), (zS I J (some 55)))) else ((if (I 67 12) = 4 then (Runs (GW L xs) (d + 1) 80 (36, [.ref 67], [], (zS I J (some 55))) r) else ((if (I 67 12) = 5 then (Runs (GW L xs) (d + 1) 80 (36, [.ref 67], [], (zS I J (some 55))) r) else ((if (I 67 12) = 6 then (Runs (GW L xs) (d + 1) 80 (36, [.ref 67], [], (zS I J (some 55))) r) else (r = (some (.int 1), (zS I J (some 55))))))))))))) : Runs (GW L xs) (d + 1) 80 (0, [.ref 67], [], (zS I J (some 55))) r := by
  refine Runs.sN 2 (c' := (4, [.ref 67], [.int (I 67 12)], (zS I J (some 55)))) rfl ?_
  by_cases c8 : (I 67 12) = 0
  · rw [if_pos c8] at h
    refine Runs.brT (P := (I 67 12) = 0) (a := 7) (b := 9) (L := [.ref 67]) (S := []) (z := (zS I J (some 55))) rfl c8 ?_
    refine Runs.sN 1 (c' := (8, [.ref 67], [.int 0], (zS I J (some 55)))) rfl ?_
    subst h
    exact Runs.rt rfl
  · rw [if_neg c8] at h
    refine Runs.brF (P := (I 67 12) = 0) (a := 7) (b := 9) (L := [.ref 67]) (S := []) (z := (zS I J (some 55))) rfl c8 ?_
    refine Runs.sN 3 (c' := (14, [.ref 67], [.int 4, .int (I 67 12)], (zS I J (some 55)))) rfl ?_
    by_cases c9 : (I 67 12) = 4
    · rw [if_pos c9] at h
      refine Runs.brT (P := (I 67 12) = 4) (a := 36) (b := 17) (L := [.ref 67]) (S := []) (z := (zS I J (some 55))) rfl c9 ?_
      exact h
    · rw [if_neg c9] at h
      refine Runs.brF (P := (I 67 12) = 4) (a := 36) (b := 17) (L := [.ref 67]) (S := []) (z := (zS I J (some 55))) rfl c9 ?_
      refine Runs.sN 3 (c' := (22, [.ref 67], [.int 5, .int (I 67 12)], (zS I J (some 55)))) rfl ?_
      by_cases c10 : (I 67 12) = 5
      · rw [if_pos c10] at h
        refine Runs.brT (P := (I 67 12) = 5) (a := 36) (b := 25) (L := [.ref 67]) (S := []) (z := (zS I J (some 55))) rfl c10 ?_
        exact h
      · rw [if_neg c10] at h
        refine Runs.brF (P := (I 67 12) = 5) (a := 36) (b := 25) (L := [.ref 67]) (S := []) (z := (zS I J (some 55))) rfl c10 ?_
        refine Runs.sN 3 (c' := (31, [.ref 67], [.int 6, .int (I 67 12)], (zS I J (some 55)))) rfl ?_
        by_cases c11 : (I 67 12) = 6
        · rw [if_pos c11] at h
          refine Runs.brT (P := (I 67 12) = 6) (a := 36) (b := 34) (L := [.ref 67]) (S := []) (z := (zS I J (some 55))) rfl c11 ?_
          exact h
        · rw [if_neg c11] at h
          refine Runs.brF (P := (I 67 12) = 6) (a := 36) (b := 34) (L := [.ref 67]) (S := []) (z := (zS I J (some 55))) rfl c11 ?_
          refine Runs.sN 1 (c' := (35, [.ref 67], [.int 1], (zS I J (some 55)))) rfl ?_
          subst h
          exact Runs.rt rfl
theorem sg_80t55_36 {L d : Nat} {xs : Nat → Int32} (I : Nat → Nat → Int32) (J : Nat → Nat → Int64) (tg : Option Nat) {r : Option Value × SS} (h : ((if (I 67 12) = 6 then (∃ (v1 : Int32) (I2 : Nat → Nat → Int32), Runs (GW L xs) d 28 (0, [.ref 55], [], (zS I J (some 55))) ((some (.int v1)), (zS I2 J (some 55))) ∧ (if v1 = 0 then (Runs (GW L xs) (d + 1) 80 (57, [.ref 67], [], (zS I2 J (some 55))) r) else (r = (some (.int 4), (zS I2 J (some 55)))))) else (Runs (GW L xs) (d + 1) 80 (57, [.ref 67], [], (zS I J (some 55))) r)))) : Runs (GW L xs) (d + 1) 80 (36, [.ref 67], [], (zS I J (some 55))) r := by
  refine Runs.sN 3 (c' := (42, [.ref 67], [.int 6, .int (I 67 12)], (zS I J (some 55)))) rfl ?_
  by_cases c3 : (I 67 12) = 6
  · rw [if_pos c3] at h
    refine Runs.brT (P := (I 67 12) = 6) (a := 45) (b := 57) (L := [.ref 67]) (S := []) (z := (zS I J (some 55))) rfl c3 ?_
    refine Runs.sN 2 (c' := (49, [.ref 67], [.ref 55], (zS I J (some 55)))) rfl ?_
    obtain ⟨v1, I2, c4, h⟩ := h
    refine Runs.cl (cm := 28) (as := [.ref 55]) (rest := []) (r1 := ((some (.int v1)), (zS I2 J (some 55)))) rfl (Nat.le_of_ble_eq_true rfl) c4 ?_
    refine Runs.as (c' := (52, [.ref 67], [.int v1], (zS I2 J (some 55)))) rfl ?_
    by_cases c5 : v1 = 0
    · rw [if_pos c5] at h
      refine Runs.brT (P := v1 = 0) (a := 57) (b := 55) (L := [.ref 67]) (S := []) (z := (zS I2 J (some 55))) rfl c5 ?_
      exact h
    · rw [if_neg c5] at h
      refine Runs.brF (P := v1 = 0) (a := 57) (b := 55) (L := [.ref 67]) (S := []) (z := (zS I2 J (some 55))) rfl c5 ?_
      refine Runs.sN 1 (c' := (56, [.ref 67], [.int 4], (zS I2 J (some 55)))) rfl ?_
      subst h
      exact Runs.rt rfl
  · rw [if_neg c3] at h
    refine Runs.brF (P := (I 67 12) = 6) (a := 45) (b := 57) (L := [.ref 67]) (S := []) (z := (zS I J (some 55))) rfl c3 ?_
    exact h
theorem sg_80t55_57 {L d : Nat} {xs : Nat → Int32} (I : Nat → Nat → Int32) (J : Nat → Nat → Int64) (tg : Option Nat) {r : Option Value × SS} (h : (∃ (v1 : Int32) (I2 : Nat → Nat → Int32), Runs (GW L xs) d 22 (0, [.ref 55], [], (zS I J (some 55))) ((some (.int v1)), (zS I2 J (some 55))) ∧ (if v1 = 0 then (∃ (I3 : Nat → Nat → Int32), Runs (GW L xs) d 23 (0, [.ref 55, .int (I2 67 12)], [], (zS I2 J (some 55))) (none, (zS I3 J (some 55))) ∧ (if (I3 67 12) = 6 then (r = (some (.int 0), (zS (up2 (up2 (up2 I3 67 7 1) 67 8 2) 67 7 2) J (some 55)))) else (r = (some (.int 0), (zS (up2 I3 67 7 1) J (some 55)))))) else (r = (some (.int 6), (zS I2 J (some 55))))))) : Runs (GW L xs) (d + 1) 80 (57, [.ref 67], [], (zS I J (some 55))) r := by
  refine Runs.sN 2 (c' := (61, [.ref 67], [.ref 55], (zS I J (some 55)))) rfl ?_
  obtain ⟨v1, I2, c4, h⟩ := h
  refine Runs.cl (cm := 22) (as := [.ref 55]) (rest := []) (r1 := ((some (.int v1)), (zS I2 J (some 55)))) rfl (Nat.le_of_ble_eq_true rfl) c4 ?_
  refine Runs.as (c' := (64, [.ref 67], [.int v1], (zS I2 J (some 55)))) rfl ?_
  by_cases c5 : v1 = 0
  · rw [if_pos c5] at h
    refine Runs.brT (P := v1 = 0) (a := 70) (b := 67) (L := [.ref 67]) (S := []) (z := (zS I2 J (some 55))) rfl c5 ?_
    refine Runs.sN 4 (c' := (78, [.ref 67], [.int (I2 67 12), .ref 55], (zS I2 J (some 55)))) rfl ?_
    obtain ⟨I3, c6, h⟩ := h
    refine Runs.cl (cm := 23) (as := [.ref 55, .int (I2 67 12)]) (rest := []) (r1 := (none, (zS I3 J (some 55)))) rfl (Nat.le_of_ble_eq_true rfl) c6 ?_
    refine Runs.as (c' := (81, [.ref 67], [], (zS I3 J (some 55)))) rfl ?_
    refine Runs.sN 6 (c' := (92, [.ref 67], [.int 6, .int (I3 67 12)], (zS (up2 I3 67 7 1) J (some 55)))) rfl ?_
    by_cases c7 : (I3 67 12) = 6
    · rw [if_pos c7] at h
      refine Runs.brT (P := (I3 67 12) = 6) (a := 95) (b := 105) (L := [.ref 67]) (S := []) (z := (zS (up2 I3 67 7 1) J (some 55))) rfl c7 ?_
      refine Runs.sN 7 (c' := (106, [.ref 67], [.int 0], (zS (up2 (up2 (up2 I3 67 7 1) 67 8 2) 67 7 2) J (some 55)))) rfl ?_
      subst h
      exact Runs.rt rfl
    · rw [if_neg c7] at h
      refine Runs.brF (P := (I3 67 12) = 6) (a := 95) (b := 105) (L := [.ref 67]) (S := []) (z := (zS (up2 I3 67 7 1) J (some 55))) rfl c7 ?_
      refine Runs.sN 1 (c' := (106, [.ref 67], [.int 0], (zS (up2 I3 67 7 1) J (some 55)))) rfl ?_
      subst h
      exact Runs.rt rfl
  · rw [if_neg c5] at h
    refine Runs.brF (P := v1 = 0) (a := 70) (b := 67) (L := [.ref 67]) (S := []) (z := (zS I2 J (some 55))) rfl c5 ?_
    refine Runs.sN 1 (c' := (69, [.ref 67], [.int 6], (zS I2 J (some 55)))) rfl ?_
    subst h
    exact Runs.rt rfl
-- X8_startClause t59
theorem sg_80t59 {L d : Nat} {xs : Nat → Int32} (I : Nat → Nat → Int32) (J : Nat → Nat → Int64) (tg : Option Nat) {r : Option Value × SS} (h : ((if (I 67 12) = 0 then (r = (some (.int 0), (zS I J (some 59)))) else ((if (I 67 12) = 4 then (Runs (GW L xs) (d + 1) 80 (36, [.ref 67], [], (zS I J (some 59))) r) else ((if (I 67 12) = 5 then (Runs (GW L xs) (d + 1) 80 (36, [.ref 67], [], (zS I J (some 59))) r) else ((if (I 67 12) = 6 then (Runs (GW L xs) (d + 1) 80 (36, [.ref 67], [], (zS I J (some 59))) r) else (r = (some (.int 1), (zS I J (some 59))))))))))))) : Runs (GW L xs) (d + 1) 80 (0, [.ref 67], [], (zS I J (some 59))) r := by
  refine Runs.sN 2 (c' := (4, [.ref 67], [.int (I 67 12)], (zS I J (some 59)))) rfl ?_
  by_cases c8 : (I 67 12) = 0
  · rw [if_pos c8] at h
    refine Runs.brT (P := (I 67 12) = 0) (a := 7) (b := 9) (L := [.ref 67]) (S := []) (z := (zS I J (some 59))) rfl c8 ?_
    refine Runs.sN 1 (c' := (8, [.ref 67], [.int 0], (zS I J (some 59)))) rfl ?_
    subst h
    exact Runs.rt rfl
  · rw [if_neg c8] at h
    refine Runs.brF (P := (I 67 12) = 0) (a := 7) (b := 9) (L := [.ref 67]) (S := []) (z := (zS I J (some 59))) rfl c8 ?_
    refine Runs.sN 3 (c' := (14, [.ref 67], [.int 4, .int (I 67 12)], (zS I J (some 59)))) rfl ?_
    by_cases c9 : (I 67 12) = 4
    · rw [if_pos c9] at h
      refine Runs.brT (P := (I 67 12) = 4) (a := 36) (b := 17) (L := [.ref 67]) (S := []) (z := (zS I J (some 59))) rfl c9 ?_
      exact h
    · rw [if_neg c9] at h
      refine Runs.brF (P := (I 67 12) = 4) (a := 36) (b := 17) (L := [.ref 67]) (S := []) (z := (zS I J (some 59))) rfl c9 ?_
      refine Runs.sN 3 (c' := (22, [.ref 67], [.int 5, .int (I 67 12)], (zS I J (some 59)))) rfl ?_
      by_cases c10 : (I 67 12) = 5
      · rw [if_pos c10] at h
        refine Runs.brT (P := (I 67 12) = 5) (a := 36) (b := 25) (L := [.ref 67]) (S := []) (z := (zS I J (some 59))) rfl c10 ?_
        exact h
      · rw [if_neg c10] at h
        refine Runs.brF (P := (I 67 12) = 5) (a := 36) (b := 25) (L := [.ref 67]) (S := []) (z := (zS I J (some 59))) rfl c10 ?_
        refine Runs.sN 3 (c' := (31, [.ref 67], [.int 6, .int (I 67 12)], (zS I J (some 59)))) rfl ?_
        by_cases c11 : (I 67 12) = 6
        · rw [if_pos c11] at h
          refine Runs.brT (P := (I 67 12) = 6) (a := 36) (b := 34) (L := [.ref 67]) (S := []) (z := (zS I J (some 59))) rfl c11 ?_
          exact h
        · rw [if_neg c11] at h
          refine Runs.brF (P := (I 67 12) = 6) (a := 36) (b := 34) (L := [.ref 67]) (S := []) (z := (zS I J (some 59))) rfl c11 ?_
          refine Runs.sN 1 (c' := (35, [.ref 67], [.int 1], (zS I J (some 59)))) rfl ?_
          subst h
          exact Runs.rt rfl
theorem sg_80t59_36 {L d : Nat} {xs : Nat → Int32} (I : Nat → Nat → Int32) (J : Nat → Nat → Int64) (tg : Option Nat) {r : Option Value × SS} (h : ((if (I 67 12) = 6 then (∃ (v1 : Int32) (I2 : Nat → Nat → Int32), Runs (GW L xs) d 28 (0, [.ref 59], [], (zS I J (some 59))) ((some (.int v1)), (zS I2 J (some 59))) ∧ (if v1 = 0 then (Runs (GW L xs) (d + 1) 80 (57, [.ref 67], [], (zS I2 J (some 59))) r) else (r = (some (.int 4), (zS I2 J (some 59)))))) else (Runs (GW L xs) (d + 1) 80 (57, [.ref 67], [], (zS I J (some 59))) r)))) : Runs (GW L xs) (d + 1) 80 (36, [.ref 67], [], (zS I J (some 59))) r := by
  refine Runs.sN 3 (c' := (42, [.ref 67], [.int 6, .int (I 67 12)], (zS I J (some 59)))) rfl ?_
  by_cases c3 : (I 67 12) = 6
  · rw [if_pos c3] at h
    refine Runs.brT (P := (I 67 12) = 6) (a := 45) (b := 57) (L := [.ref 67]) (S := []) (z := (zS I J (some 59))) rfl c3 ?_
    refine Runs.sN 2 (c' := (49, [.ref 67], [.ref 59], (zS I J (some 59)))) rfl ?_
    obtain ⟨v1, I2, c4, h⟩ := h
    refine Runs.cl (cm := 28) (as := [.ref 59]) (rest := []) (r1 := ((some (.int v1)), (zS I2 J (some 59)))) rfl (Nat.le_of_ble_eq_true rfl) c4 ?_
    refine Runs.as (c' := (52, [.ref 67], [.int v1], (zS I2 J (some 59)))) rfl ?_
    by_cases c5 : v1 = 0
    · rw [if_pos c5] at h
      refine Runs.brT (P := v1 = 0) (a := 57) (b := 55) (L := [.ref 67]) (S := []) (z := (zS I2 J (some 59))) rfl c5 ?_
      exact h
    · rw [if_neg c5] at h
      refine Runs.brF (P := v1 = 0) (a := 57) (b := 55) (L := [.ref 67]) (S := []) (z := (zS I2 J (some 59))) rfl c5 ?_
      refine Runs.sN 1 (c' := (56, [.ref 67], [.int 4], (zS I2 J (some 59)))) rfl ?_
      subst h
      exact Runs.rt rfl
  · rw [if_neg c3] at h
    refine Runs.brF (P := (I 67 12) = 6) (a := 45) (b := 57) (L := [.ref 67]) (S := []) (z := (zS I J (some 59))) rfl c3 ?_
    exact h
theorem sg_80t59_57 {L d : Nat} {xs : Nat → Int32} (I : Nat → Nat → Int32) (J : Nat → Nat → Int64) (tg : Option Nat) {r : Option Value × SS} (h : (∃ (v1 : Int32) (I2 : Nat → Nat → Int32), Runs (GW L xs) d 22 (0, [.ref 59], [], (zS I J (some 59))) ((some (.int v1)), (zS I2 J (some 59))) ∧ (if v1 = 0 then (∃ (I3 : Nat → Nat → Int32), Runs (GW L xs) d 23 (0, [.ref 59, .int (I2 67 12)], [], (zS I2 J (some 59))) (none, (zS I3 J (some 59))) ∧ (if (I3 67 12) = 6 then (r = (some (.int 0), (zS (up2 (up2 (up2 I3 67 7 1) 67 8 2) 67 7 2) J (some 59)))) else (r = (some (.int 0), (zS (up2 I3 67 7 1) J (some 59)))))) else (r = (some (.int 6), (zS I2 J (some 59))))))) : Runs (GW L xs) (d + 1) 80 (57, [.ref 67], [], (zS I J (some 59))) r := by
  refine Runs.sN 2 (c' := (61, [.ref 67], [.ref 59], (zS I J (some 59)))) rfl ?_
  obtain ⟨v1, I2, c4, h⟩ := h
  refine Runs.cl (cm := 22) (as := [.ref 59]) (rest := []) (r1 := ((some (.int v1)), (zS I2 J (some 59)))) rfl (Nat.le_of_ble_eq_true rfl) c4 ?_
  refine Runs.as (c' := (64, [.ref 67], [.int v1], (zS I2 J (some 59)))) rfl ?_
  by_cases c5 : v1 = 0
  · rw [if_pos c5] at h
    refine Runs.brT (P := v1 = 0) (a := 70) (b := 67) (L := [.ref 67]) (S := []) (z := (zS I2 J (some 59))) rfl c5 ?_
    refine Runs.sN 4 (c' := (78, [.ref 67], [.int (I2 67 12), .ref 59], (zS I2 J (some 59)))) rfl ?_
    obtain ⟨I3, c6, h⟩ := h
    refine Runs.cl (cm := 23) (as := [.ref 59, .int (I2 67 12)]) (rest := []) (r1 := (none, (zS I3 J (some 59)))) rfl (Nat.le_of_ble_eq_true rfl) c6 ?_
    refine Runs.as (c' := (81, [.ref 67], [], (zS I3 J (some 59)))) rfl ?_
    refine Runs.sN 6 (c' := (92, [.ref 67], [.int 6, .int (I3 67 12)], (zS (up2 I3 67 7 1) J (some 59)))) rfl ?_
    by_cases c7 : (I3 67 12) = 6
    · rw [if_pos c7] at h
      refine Runs.brT (P := (I3 67 12) = 6) (a := 95) (b := 105) (L := [.ref 67]) (S := []) (z := (zS (up2 I3 67 7 1) J (some 59))) rfl c7 ?_
      refine Runs.sN 7 (c' := (106, [.ref 67], [.int 0], (zS (up2 (up2 (up2 I3 67 7 1) 67 8 2) 67 7 2) J (some 59)))) rfl ?_
      subst h
      exact Runs.rt rfl
    · rw [if_neg c7] at h
      refine Runs.brF (P := (I3 67 12) = 6) (a := 95) (b := 105) (L := [.ref 67]) (S := []) (z := (zS (up2 I3 67 7 1) J (some 59))) rfl c7 ?_
      refine Runs.sN 1 (c' := (106, [.ref 67], [.int 0], (zS (up2 I3 67 7 1) J (some 59)))) rfl ?_
      subst h
      exact Runs.rt rfl
  · rw [if_neg c5] at h
    refine Runs.brF (P := v1 = 0) (a := 70) (b := 67) (L := [.ref 67]) (S := []) (z := (zS I2 J (some 59))) rfl c5 ?_
    refine Runs.sN 1 (c' := (69, [.ref 67], [.int 6], (zS I2 J (some 59)))) rfl ?_
    subst h
    exact Runs.rt rfl
-- X8_startAsk 
theorem sg_81 {L d : Nat} {xs : Nat → Int32} (I : Nat → Nat → Int32) (J : Nat → Nat → Int64) (tg : Option Nat) {r : Option Value × SS} (h : ((if (I 67 12) = 18 then ((if ((I 67 10) + (I 67 11)) < 8 then (∃ (I4 : Nat → Nat → Int32), Runs (GW L xs) d 87 (0, [.ref 67, .int 18], [], (zS (up2 I 67 10 ((I 67 10) + 1)) J tg)) (none, (zS I4 J tg)) ∧ r = (some (.int 0), (zS I4 J tg))) else (r = (some (.int 3), (zS I J tg))))) else (∃ (v5 : Int32) (I6 : Nat → Nat → Int32), Runs (GW L xs) d 82 (0, [.ref 67], [], (zS (up2 I 67 8 0) J tg)) ((some (.int v5)), (zS I6 J tg)) ∧ r = (some (.int v5), (zS I6 J tg)))))) : Runs (GW L xs) (d + 1) 81 (0, [.ref 67], [], (zS I J tg)) r := by
  refine Runs.sN 3 (c' := (6, [.ref 67], [.int 18, .int (I 67 12)], (zS I J tg))) rfl ?_
  by_cases c7 : (I 67 12) = 18
  · rw [if_pos c7] at h
    refine Runs.brT (P := (I 67 12) = 18) (a := 19) (b := 9) (L := [.ref 67]) (S := []) (z := (zS I J tg)) rfl c7 ?_
    refine Runs.sN 6 (c' := (30, [.ref 67], [.int 8, .int ((I 67 10) + (I 67 11))], (zS I J tg))) rfl ?_
    by_cases c8 : ((I 67 10) + (I 67 11)) < 8
    · rw [if_pos c8] at h
      refine Runs.brT (P := ((I 67 10) + (I 67 11)) < 8) (a := 35) (b := 33) (L := [.ref 67]) (S := []) (z := (zS I J tg)) rfl c8 ?_
      refine Runs.sN 8 (c' := (48, [.ref 67], [.int 18, .ref 67], (zS (up2 I 67 10 ((I 67 10) + 1)) J tg))) rfl ?_
      obtain ⟨I4, c9, h⟩ := h
      refine Runs.cl (cm := 87) (as := [.ref 67, .int 18]) (rest := []) (r1 := (none, (zS I4 J tg))) rfl (Nat.le_of_ble_eq_true rfl) c9 ?_
      refine Runs.as (c' := (51, [.ref 67], [], (zS I4 J tg))) rfl ?_
      refine Runs.sN 1 (c' := (52, [.ref 67], [.int 0], (zS I4 J tg))) rfl ?_
      subst h
      exact Runs.rt rfl
    · rw [if_neg c8] at h
      refine Runs.brF (P := ((I 67 10) + (I 67 11)) < 8) (a := 35) (b := 33) (L := [.ref 67]) (S := []) (z := (zS I J tg)) rfl c8 ?_
      refine Runs.sN 1 (c' := (34, [.ref 67], [.int 3], (zS I J tg))) rfl ?_
      subst h
      exact Runs.rt rfl
  · rw [if_neg c7] at h
    refine Runs.brF (P := (I 67 12) = 18) (a := 19) (b := 9) (L := [.ref 67]) (S := []) (z := (zS I J tg)) rfl c7 ?_
    refine Runs.sN 4 (c' := (15, [.ref 67], [.ref 67], (zS (up2 I 67 8 0) J tg))) rfl ?_
    obtain ⟨v5, I6, c10, h⟩ := h
    refine Runs.cl (cm := 82) (as := [.ref 67]) (rest := []) (r1 := ((some (.int v5)), (zS I6 J tg))) rfl (Nat.le_of_ble_eq_true rfl) c10 ?_
    refine Runs.as (c' := (18, [.ref 67], [.int v5], (zS I6 J tg))) rfl ?_
    subst h
    exact Runs.rt rfl
-- X8_startOne t47
theorem sg_82t47 {L d : Nat} {xs : Nat → Int32} (I : Nat → Nat → Int32) (J : Nat → Nat → Int64) (tg : Option Nat) {r : Option Value × SS} (h : ((if (I 67 12) = 2 then ((if (I 67 13) ≤ 9999 then (∃ (I12 : Nat → Nat → Int32), Runs (GW L xs) d 25 (0, [.ref 47, .int (I 67 13)], [], (zS I J (some 47))) (none, (zS I12 J (some 47))) ∧ Runs (GW L xs) (d + 1) 82 (84, [.ref 67], [], (zS I12 J (some 47))) r) else (r = (some (.int 2), (zS I J (some 47)))))) else ((if (I 67 12) = 3 then ((if (I 67 13) < 8 then (∃ (I13 : Nat → Nat → Int32), Runs (GW L xs) d 25 (0, [.ref 47, .int (10000 + (I 67 13))], [], (zS I J (some 47))) (none, (zS I13 J (some 47))) ∧ Runs (GW L xs) (d + 1) 82 (84, [.ref 67], [], (zS I13 J (some 47))) r) else ((if (I 67 8) = 2 then (∃ (I14 : Nat → Nat → Int32), Runs (GW L xs) d 25 (0, [.ref 47, .int (10000 + (I 67 13))], [], (zS I J (some 47))) (none, (zS I14 J (some 47))) ∧ Runs (GW L xs) (d + 1) 82 (84, [.ref 67], [], (zS I14 J (some 47))) r) else (r = (some (.int 5), (zS I J (some 47)))))))) else (∃ (v15 : Int32) (I16 : Nat → Nat → Int32), Runs (GW L xs) d 83 (0, [.ref 67], [], (zS I J (some 47))) ((some (.int v15)), (zS I16 J (some 47))) ∧ r = (some (.int v15), (zS I16 J (some 47))))))))) : Runs (GW L xs) (d + 1) 82 (0, [.ref 67], [], (zS I J (some 47))) r := by
  refine Runs.sN 3 (c' := (5, [.ref 67], [.int 2, .int (I 67 12)], (zS I J (some 47)))) rfl ?_
  by_cases c17 : (I 67 12) = 2
  · rw [if_pos c17] at h
    refine Runs.brT (P := (I 67 12) = 2) (a := 8) (b := 34) (L := [.ref 67]) (S := []) (z := (zS I J (some 47))) rfl c17 ?_
    refine Runs.sN 3 (c' := (15, [.ref 67], [.int 9999, .int (I 67 13)], (zS I J (some 47)))) rfl ?_
    by_cases c18 : (I 67 13) ≤ 9999
    · rw [if_pos c18] at h
      refine Runs.brT (P := (I 67 13) ≤ 9999) (a := 20) (b := 18) (L := [.ref 67]) (S := []) (z := (zS I J (some 47))) rfl c18 ?_
      refine Runs.sN 4 (c' := (28, [.ref 67], [.int (I 67 13), .ref 47], (zS I J (some 47)))) rfl ?_
      obtain ⟨I12, c19, h⟩ := h
      refine Runs.cl (cm := 25) (as := [.ref 47, .int (I 67 13)]) (rest := []) (r1 := (none, (zS I12 J (some 47)))) rfl (Nat.le_of_ble_eq_true rfl) c19 ?_
      refine Runs.as (c' := (31, [.ref 67], [], (zS I12 J (some 47)))) rfl ?_
      refine Runs.sN 1 (c' := (84, [.ref 67], [], (zS I12 J (some 47)))) rfl ?_
      exact h
    · rw [if_neg c18] at h
      refine Runs.brF (P := (I 67 13) ≤ 9999) (a := 20) (b := 18) (L := [.ref 67]) (S := []) (z := (zS I J (some 47))) rfl c18 ?_
      refine Runs.sN 1 (c' := (19, [.ref 67], [.int 2], (zS I J (some 47)))) rfl ?_
      subst h
      exact Runs.rt rfl
  · rw [if_neg c17] at h
    refine Runs.brF (P := (I 67 12) = 2) (a := 8) (b := 34) (L := [.ref 67]) (S := []) (z := (zS I J (some 47))) rfl c17 ?_
    refine Runs.sN 3 (c' := (39, [.ref 67], [.int 3, .int (I 67 12)], (zS I J (some 47)))) rfl ?_
    by_cases c20 : (I 67 12) = 3
    · rw [if_pos c20] at h
      refine Runs.brT (P := (I 67 12) = 3) (a := 42) (b := 79) (L := [.ref 67]) (S := []) (z := (zS I J (some 47))) rfl c20 ?_
      refine Runs.sN 3 (c' := (48, [.ref 67], [.int 8, .int (I 67 13)], (zS I J (some 47)))) rfl ?_
      by_cases c21 : (I 67 13) < 8
      · rw [if_pos c21] at h
        refine Runs.brT (P := (I 67 13) < 8) (a := 61) (b := 51) (L := [.ref 67]) (S := []) (z := (zS I J (some 47))) rfl c21 ?_
        refine Runs.sN 6 (c' := (73, [.ref 67], [.int (10000 + (I 67 13)), .ref 47], (zS I J (some 47)))) rfl ?_
        obtain ⟨I13, c22, h⟩ := h
        refine Runs.cl (cm := 25) (as := [.ref 47, .int (10000 + (I 67 13))]) (rest := []) (r1 := (none, (zS I13 J (some 47)))) rfl (Nat.le_of_ble_eq_true rfl) c22 ?_
        refine Runs.as (c' := (76, [.ref 67], [], (zS I13 J (some 47)))) rfl ?_
        refine Runs.sN 1 (c' := (84, [.ref 67], [], (zS I13 J (some 47)))) rfl ?_
        exact h
      · rw [if_neg c21] at h
        refine Runs.brF (P := (I 67 13) < 8) (a := 61) (b := 51) (L := [.ref 67]) (S := []) (z := (zS I J (some 47))) rfl c21 ?_
        refine Runs.sN 3 (c' := (56, [.ref 67], [.int 2, .int (I 67 8)], (zS I J (some 47)))) rfl ?_
        by_cases c23 : (I 67 8) = 2
        · rw [if_pos c23] at h
          refine Runs.brT (P := (I 67 8) = 2) (a := 61) (b := 59) (L := [.ref 67]) (S := []) (z := (zS I J (some 47))) rfl c23 ?_
          refine Runs.sN 6 (c' := (73, [.ref 67], [.int (10000 + (I 67 13)), .ref 47], (zS I J (some 47)))) rfl ?_
          obtain ⟨I14, c24, h⟩ := h
          refine Runs.cl (cm := 25) (as := [.ref 47, .int (10000 + (I 67 13))]) (rest := []) (r1 := (none, (zS I14 J (some 47)))) rfl (Nat.le_of_ble_eq_true rfl) c24 ?_
          refine Runs.as (c' := (76, [.ref 67], [], (zS I14 J (some 47)))) rfl ?_
          refine Runs.sN 1 (c' := (84, [.ref 67], [], (zS I14 J (some 47)))) rfl ?_
          exact h
        · rw [if_neg c23] at h
          refine Runs.brF (P := (I 67 8) = 2) (a := 61) (b := 59) (L := [.ref 67]) (S := []) (z := (zS I J (some 47))) rfl c23 ?_
          refine Runs.sN 1 (c' := (60, [.ref 67], [.int 5], (zS I J (some 47)))) rfl ?_
          subst h
          exact Runs.rt rfl
    · rw [if_neg c20] at h
      refine Runs.brF (P := (I 67 12) = 3) (a := 42) (b := 79) (L := [.ref 67]) (S := []) (z := (zS I J (some 47))) rfl c20 ?_
      refine Runs.sN 1 (c' := (80, [.ref 67], [.ref 67], (zS I J (some 47)))) rfl ?_
      obtain ⟨v15, I16, c25, h⟩ := h
      refine Runs.cl (cm := 83) (as := [.ref 67]) (rest := []) (r1 := ((some (.int v15)), (zS I16 J (some 47)))) rfl (Nat.le_of_ble_eq_true rfl) c25 ?_
      refine Runs.as (c' := (83, [.ref 67], [.int v15], (zS I16 J (some 47)))) rfl ?_
      subst h
      exact Runs.rt rfl
theorem sg_82t47_84 {L d : Nat} {xs : Nat → Int32} (I : Nat → Nat → Int32) (J : Nat → Nat → Int64) (tg : Option Nat) {r : Option Value × SS} (h : ((if (I 67 11) ≤ 0 then (r = (some (.int 0), (zS (up2 I 67 7 3) J (some 47)))) else (∃ (I1 : Nat → Nat → Int32), Runs (GW L xs) d 25 (0, [.ref 47, .int 20021], [], (zS I J (some 47))) (none, (zS I1 J (some 47))) ∧ Runs (GW L xs) (d + 1) 82 (84, [.ref 67], [], (zS (up2 I1 67 11 ((I1 67 11) - 1)) J (some 47))) r)))) : Runs (GW L xs) (d + 1) 82 (84, [.ref 67], [], (zS I J (some 47))) r := by
  refine Runs.sN 2 (c' := (88, [.ref 67], [.int (I 67 11)], (zS I J (some 47)))) rfl ?_
  by_cases c2 : (I 67 11) ≤ 0
  · rw [if_pos c2] at h
    refine Runs.brT (P := (I 67 11) ≤ 0) (a := 114) (b := 91) (L := [.ref 67]) (S := []) (z := (zS I J (some 47))) rfl c2 ?_
    refine Runs.sN 4 (c' := (120, [.ref 67], [.int 0], (zS (up2 I 67 7 3) J (some 47)))) rfl ?_
    subst h
    exact Runs.rt rfl
  · rw [if_neg c2] at h
    refine Runs.brF (P := (I 67 11) ≤ 0) (a := 114) (b := 91) (L := [.ref 67]) (S := []) (z := (zS I J (some 47))) rfl c2 ?_
    refine Runs.sN 3 (c' := (98, [.ref 67], [.int 20021, .ref 47], (zS I J (some 47)))) rfl ?_
    obtain ⟨I1, c3, h⟩ := h
    refine Runs.cl (cm := 25) (as := [.ref 47, .int 20021]) (rest := []) (r1 := (none, (zS I1 J (some 47)))) rfl (Nat.le_of_ble_eq_true rfl) c3 ?_
    refine Runs.as (c' := (101, [.ref 67], [], (zS I1 J (some 47)))) rfl ?_
    refine Runs.sN 7 (c' := (84, [.ref 67], [], (zS (up2 I1 67 11 ((I1 67 11) - 1)) J (some 47)))) rfl ?_
    exact h
-- X8_startOne t51
theorem sg_82t51 {L d : Nat} {xs : Nat → Int32} (I : Nat → Nat → Int32) (J : Nat → Nat → Int64) (tg : Option Nat) {r : Option Value × SS} (h : ((if (I 67 12) = 2 then ((if (I 67 13) ≤ 9999 then (∃ (I12 : Nat → Nat → Int32), Runs (GW L xs) d 25 (0, [.ref 51, .int (I 67 13)], [], (zS I J (some 51))) (none, (zS I12 J (some 51))) ∧ Runs (GW L xs) (d + 1) 82 (84, [.ref 67], [], (zS I12 J (some 51))) r) else (r = (some (.int 2), (zS I J (some 51)))))) else ((if (I 67 12) = 3 then ((if (I 67 13) < 8 then (∃ (I13 : Nat → Nat → Int32), Runs (GW L xs) d 25 (0, [.ref 51, .int (10000 + (I 67 13))], [], (zS I J (some 51))) (none, (zS I13 J (some 51))) ∧ Runs (GW L xs) (d + 1) 82 (84, [.ref 67], [], (zS I13 J (some 51))) r) else ((if (I 67 8) = 2 then (∃ (I14 : Nat → Nat → Int32), Runs (GW L xs) d 25 (0, [.ref 51, .int (10000 + (I 67 13))], [], (zS I J (some 51))) (none, (zS I14 J (some 51))) ∧ Runs (GW L xs) (d + 1) 82 (84, [.ref 67], [], (zS I14 J (some 51))) r) else (r = (some (.int 5), (zS I J (some 51)))))))) else (∃ (v15 : Int32) (I16 : Nat → Nat → Int32), Runs (GW L xs) d 83 (0, [.ref 67], [], (zS I J (some 51))) ((some (.int v15)), (zS I16 J (some 51))) ∧ r = (some (.int v15), (zS I16 J (some 51))))))))) : Runs (GW L xs) (d + 1) 82 (0, [.ref 67], [], (zS I J (some 51))) r := by
  refine Runs.sN 3 (c' := (5, [.ref 67], [.int 2, .int (I 67 12)], (zS I J (some 51)))) rfl ?_
  by_cases c17 : (I 67 12) = 2
  · rw [if_pos c17] at h
    refine Runs.brT (P := (I 67 12) = 2) (a := 8) (b := 34) (L := [.ref 67]) (S := []) (z := (zS I J (some 51))) rfl c17 ?_
    refine Runs.sN 3 (c' := (15, [.ref 67], [.int 9999, .int (I 67 13)], (zS I J (some 51)))) rfl ?_
    by_cases c18 : (I 67 13) ≤ 9999
    · rw [if_pos c18] at h
      refine Runs.brT (P := (I 67 13) ≤ 9999) (a := 20) (b := 18) (L := [.ref 67]) (S := []) (z := (zS I J (some 51))) rfl c18 ?_
      refine Runs.sN 4 (c' := (28, [.ref 67], [.int (I 67 13), .ref 51], (zS I J (some 51)))) rfl ?_
      obtain ⟨I12, c19, h⟩ := h
      refine Runs.cl (cm := 25) (as := [.ref 51, .int (I 67 13)]) (rest := []) (r1 := (none, (zS I12 J (some 51)))) rfl (Nat.le_of_ble_eq_true rfl) c19 ?_
      refine Runs.as (c' := (31, [.ref 67], [], (zS I12 J (some 51)))) rfl ?_
      refine Runs.sN 1 (c' := (84, [.ref 67], [], (zS I12 J (some 51)))) rfl ?_
      exact h
    · rw [if_neg c18] at h
      refine Runs.brF (P := (I 67 13) ≤ 9999) (a := 20) (b := 18) (L := [.ref 67]) (S := []) (z := (zS I J (some 51))) rfl c18 ?_
      refine Runs.sN 1 (c' := (19, [.ref 67], [.int 2], (zS I J (some 51)))) rfl ?_
      subst h
      exact Runs.rt rfl
  · rw [if_neg c17] at h
    refine Runs.brF (P := (I 67 12) = 2) (a := 8) (b := 34) (L := [.ref 67]) (S := []) (z := (zS I J (some 51))) rfl c17 ?_
    refine Runs.sN 3 (c' := (39, [.ref 67], [.int 3, .int (I 67 12)], (zS I J (some 51)))) rfl ?_
    by_cases c20 : (I 67 12) = 3
    · rw [if_pos c20] at h
      refine Runs.brT (P := (I 67 12) = 3) (a := 42) (b := 79) (L := [.ref 67]) (S := []) (z := (zS I J (some 51))) rfl c20 ?_
      refine Runs.sN 3 (c' := (48, [.ref 67], [.int 8, .int (I 67 13)], (zS I J (some 51)))) rfl ?_
      by_cases c21 : (I 67 13) < 8
      · rw [if_pos c21] at h
        refine Runs.brT (P := (I 67 13) < 8) (a := 61) (b := 51) (L := [.ref 67]) (S := []) (z := (zS I J (some 51))) rfl c21 ?_
        refine Runs.sN 6 (c' := (73, [.ref 67], [.int (10000 + (I 67 13)), .ref 51], (zS I J (some 51)))) rfl ?_
        obtain ⟨I13, c22, h⟩ := h
        refine Runs.cl (cm := 25) (as := [.ref 51, .int (10000 + (I 67 13))]) (rest := []) (r1 := (none, (zS I13 J (some 51)))) rfl (Nat.le_of_ble_eq_true rfl) c22 ?_
        refine Runs.as (c' := (76, [.ref 67], [], (zS I13 J (some 51)))) rfl ?_
        refine Runs.sN 1 (c' := (84, [.ref 67], [], (zS I13 J (some 51)))) rfl ?_
        exact h
      · rw [if_neg c21] at h
        refine Runs.brF (P := (I 67 13) < 8) (a := 61) (b := 51) (L := [.ref 67]) (S := []) (z := (zS I J (some 51))) rfl c21 ?_
        refine Runs.sN 3 (c' := (56, [.ref 67], [.int 2, .int (I 67 8)], (zS I J (some 51)))) rfl ?_
        by_cases c23 : (I 67 8) = 2
        · rw [if_pos c23] at h
          refine Runs.brT (P := (I 67 8) = 2) (a := 61) (b := 59) (L := [.ref 67]) (S := []) (z := (zS I J (some 51))) rfl c23 ?_
          refine Runs.sN 6 (c' := (73, [.ref 67], [.int (10000 + (I 67 13)), .ref 51], (zS I J (some 51)))) rfl ?_
          obtain ⟨I14, c24, h⟩ := h
          refine Runs.cl (cm := 25) (as := [.ref 51, .int (10000 + (I 67 13))]) (rest := []) (r1 := (none, (zS I14 J (some 51)))) rfl (Nat.le_of_ble_eq_true rfl) c24 ?_
          refine Runs.as (c' := (76, [.ref 67], [], (zS I14 J (some 51)))) rfl ?_
          refine Runs.sN 1 (c' := (84, [.ref 67], [], (zS I14 J (some 51)))) rfl ?_
          exact h
        · rw [if_neg c23] at h
          refine Runs.brF (P := (I 67 8) = 2) (a := 61) (b := 59) (L := [.ref 67]) (S := []) (z := (zS I J (some 51))) rfl c23 ?_
          refine Runs.sN 1 (c' := (60, [.ref 67], [.int 5], (zS I J (some 51)))) rfl ?_
          subst h
          exact Runs.rt rfl
    · rw [if_neg c20] at h
      refine Runs.brF (P := (I 67 12) = 3) (a := 42) (b := 79) (L := [.ref 67]) (S := []) (z := (zS I J (some 51))) rfl c20 ?_
      refine Runs.sN 1 (c' := (80, [.ref 67], [.ref 67], (zS I J (some 51)))) rfl ?_
      obtain ⟨v15, I16, c25, h⟩ := h
      refine Runs.cl (cm := 83) (as := [.ref 67]) (rest := []) (r1 := ((some (.int v15)), (zS I16 J (some 51)))) rfl (Nat.le_of_ble_eq_true rfl) c25 ?_
      refine Runs.as (c' := (83, [.ref 67], [.int v15], (zS I16 J (some 51)))) rfl ?_
      subst h
      exact Runs.rt rfl
theorem sg_82t51_84 {L d : Nat} {xs : Nat → Int32} (I : Nat → Nat → Int32) (J : Nat → Nat → Int64) (tg : Option Nat) {r : Option Value × SS} (h : ((if (I 67 11) ≤ 0 then (r = (some (.int 0), (zS (up2 I 67 7 3) J (some 51)))) else (∃ (I1 : Nat → Nat → Int32), Runs (GW L xs) d 25 (0, [.ref 51, .int 20021], [], (zS I J (some 51))) (none, (zS I1 J (some 51))) ∧ Runs (GW L xs) (d + 1) 82 (84, [.ref 67], [], (zS (up2 I1 67 11 ((I1 67 11) - 1)) J (some 51))) r)))) : Runs (GW L xs) (d + 1) 82 (84, [.ref 67], [], (zS I J (some 51))) r := by
  refine Runs.sN 2 (c' := (88, [.ref 67], [.int (I 67 11)], (zS I J (some 51)))) rfl ?_
  by_cases c2 : (I 67 11) ≤ 0
  · rw [if_pos c2] at h
    refine Runs.brT (P := (I 67 11) ≤ 0) (a := 114) (b := 91) (L := [.ref 67]) (S := []) (z := (zS I J (some 51))) rfl c2 ?_
    refine Runs.sN 4 (c' := (120, [.ref 67], [.int 0], (zS (up2 I 67 7 3) J (some 51)))) rfl ?_
    subst h
    exact Runs.rt rfl
  · rw [if_neg c2] at h
    refine Runs.brF (P := (I 67 11) ≤ 0) (a := 114) (b := 91) (L := [.ref 67]) (S := []) (z := (zS I J (some 51))) rfl c2 ?_
    refine Runs.sN 3 (c' := (98, [.ref 67], [.int 20021, .ref 51], (zS I J (some 51)))) rfl ?_
    obtain ⟨I1, c3, h⟩ := h
    refine Runs.cl (cm := 25) (as := [.ref 51, .int 20021]) (rest := []) (r1 := (none, (zS I1 J (some 51)))) rfl (Nat.le_of_ble_eq_true rfl) c3 ?_
    refine Runs.as (c' := (101, [.ref 67], [], (zS I1 J (some 51)))) rfl ?_
    refine Runs.sN 7 (c' := (84, [.ref 67], [], (zS (up2 I1 67 11 ((I1 67 11) - 1)) J (some 51)))) rfl ?_
    exact h
