-- X2_join 
theorem sg_30 {L d : Nat} {xs : Nat → Int32} (I : Nat → Nat → Int32) (J : Nat → Nat → Int64) (tg : Option Nat) (a1 : Int32) (a2 : Int64) (a3 : Int64) {r : Option Value × SS} (h : ((if Int32.toInt a1 < 7 ∨ 16 < Int32.toInt a1 then (r = (some (.long (a2 * a3)), (zS I J tg))) else (if a1 = 7 then (r = (some (.long (a2 ||| a3)), (zS I J tg))) else (if a1 = 8 then (r = (some (.long (a2 &&& a3)), (zS I J tg))) else (if a1 = 9 then ((if 0 ≤ (lg_cmp a2 a3) then (r = (some (.long 0), (zS I J tg))) else (r = (some (.long 1), (zS I J tg))))) else (if a1 = 10 then ((if 0 < (lg_cmp a2 a3) then (r = (some (.long 0), (zS I J tg))) else (r = (some (.long 1), (zS I J tg))))) else (if a1 = 11 then ((if (lg_cmp a2 a3) ≤ 0 then (r = (some (.long 0), (zS I J tg))) else (r = (some (.long 1), (zS I J tg))))) else (if a1 = 12 then ((if (lg_cmp a2 a3) < 0 then (r = (some (.long 0), (zS I J tg))) else (r = (some (.long 1), (zS I J tg))))) else (if a1 = 13 then ((if (lg_cmp a2 a3) = 0 then (r = (some (.long 1), (zS I J tg))) else (r = (some (.long 0), (zS I J tg))))) else (if a1 = 14 then ((if (lg_cmp a2 a3) = 0 then (r = (some (.long 0), (zS I J tg))) else (r = (some (.long 1), (zS I J tg))))) else (if a1 = 15 then (r = (some (.long (a2 + a3)), (zS I J tg))) else (if a1 = 16 then (r = (some (.long (a2 - a3)), (zS I J tg))) else False))))))))))))) : Runs (GW L xs) d 30 (0, [.int a1, .long a2, vU, .long a3, vU], [], (zS I J tg)) r := by
  refine Runs.sN 1 (c' := (1, [.int a1, .long a2, vU, .long a3, vU], [.int a1], (zS I J tg))) rfl ?_
  by_cases c1 : Int32.toInt a1 < 7 ∨ 16 < Int32.toInt a1
  · rw [if_pos c1] at h
    refine Runs.to (c' := (144, [.int a1, .long a2, vU, .long a3, vU], [], (zS I J tg))) (Runs.swd rfl c1) ?_
    refine Runs.sN 3 (c' := (147, [.int a1, .long a2, vU, .long a3, vU], [.long (a2 * a3)], (zS I J tg))) rfl ?_
    subst h
    exact Runs.rt rfl
  · rw [if_neg c1] at h
    by_cases c2 : a1 = 7
    · rw [if_pos c2] at h
      refine Runs.to (c' := (56, [.int a1, .long a2, vU, .long a3, vU], [], (zS I J tg))) (Runs.swj rfl c2 rfl) ?_
      refine Runs.sN 3 (c' := (59, [.int a1, .long a2, vU, .long a3, vU], [.long (a2 ||| a3)], (zS I J tg))) rfl ?_
      subst h
      exact Runs.rt rfl
    rw [if_neg c2] at h
    by_cases c3 : a1 = 8
    · rw [if_pos c3] at h
      refine Runs.to (c' := (60, [.int a1, .long a2, vU, .long a3, vU], [], (zS I J tg))) (Runs.swj rfl c3 rfl) ?_
      refine Runs.sN 3 (c' := (63, [.int a1, .long a2, vU, .long a3, vU], [.long (a2 &&& a3)], (zS I J tg))) rfl ?_
      subst h
      exact Runs.rt rfl
    rw [if_neg c3] at h
    by_cases c4 : a1 = 9
    · rw [if_pos c4] at h
      refine Runs.to (c' := (64, [.int a1, .long a2, vU, .long a3, vU], [], (zS I J tg))) (Runs.swj rfl c4 rfl) ?_
      refine Runs.sN 3 (c' := (67, [.int a1, .long a2, vU, .long a3, vU], [.int (lg_cmp a2 a3)], (zS I J tg))) rfl ?_
      by_cases c5 : 0 ≤ (lg_cmp a2 a3)
      · rw [if_pos c5] at h
        refine Runs.brT (P := 0 ≤ (lg_cmp a2 a3)) (a := 74) (b := 70) (L := [.int a1, .long a2, vU, .long a3, vU]) (S := []) (z := (zS I J tg)) rfl c5 ?_
        refine Runs.sN 1 (c' := (75, [.int a1, .long a2, vU, .long a3, vU], [.long 0], (zS I J tg))) rfl ?_
        subst h
        exact Runs.rt rfl
      · rw [if_neg c5] at h
        refine Runs.brF (P := 0 ≤ (lg_cmp a2 a3)) (a := 74) (b := 70) (L := [.int a1, .long a2, vU, .long a3, vU]) (S := []) (z := (zS I J tg)) rfl c5 ?_
        refine Runs.sN 2 (c' := (75, [.int a1, .long a2, vU, .long a3, vU], [.long 1], (zS I J tg))) rfl ?_
        subst h
        exact Runs.rt rfl
    rw [if_neg c4] at h
    by_cases c6 : a1 = 10
    · rw [if_pos c6] at h
      refine Runs.to (c' := (76, [.int a1, .long a2, vU, .long a3, vU], [], (zS I J tg))) (Runs.swj rfl c6 rfl) ?_
      refine Runs.sN 3 (c' := (79, [.int a1, .long a2, vU, .long a3, vU], [.int (lg_cmp a2 a3)], (zS I J tg))) rfl ?_
      by_cases c7 : 0 < (lg_cmp a2 a3)
      · rw [if_pos c7] at h
        refine Runs.brT (P := 0 < (lg_cmp a2 a3)) (a := 86) (b := 82) (L := [.int a1, .long a2, vU, .long a3, vU]) (S := []) (z := (zS I J tg)) rfl c7 ?_
        refine Runs.sN 1 (c' := (87, [.int a1, .long a2, vU, .long a3, vU], [.long 0], (zS I J tg))) rfl ?_
        subst h
        exact Runs.rt rfl
      · rw [if_neg c7] at h
        refine Runs.brF (P := 0 < (lg_cmp a2 a3)) (a := 86) (b := 82) (L := [.int a1, .long a2, vU, .long a3, vU]) (S := []) (z := (zS I J tg)) rfl c7 ?_
        refine Runs.sN 2 (c' := (87, [.int a1, .long a2, vU, .long a3, vU], [.long 1], (zS I J tg))) rfl ?_
        subst h
        exact Runs.rt rfl
    rw [if_neg c6] at h
    by_cases c8 : a1 = 11
    · rw [if_pos c8] at h
      refine Runs.to (c' := (88, [.int a1, .long a2, vU, .long a3, vU], [], (zS I J tg))) (Runs.swj rfl c8 rfl) ?_
      refine Runs.sN 3 (c' := (91, [.int a1, .long a2, vU, .long a3, vU], [.int (lg_cmp a2 a3)], (zS I J tg))) rfl ?_
      by_cases c9 : (lg_cmp a2 a3) ≤ 0
      · rw [if_pos c9] at h
        refine Runs.brT (P := (lg_cmp a2 a3) ≤ 0) (a := 98) (b := 94) (L := [.int a1, .long a2, vU, .long a3, vU]) (S := []) (z := (zS I J tg)) rfl c9 ?_
        refine Runs.sN 1 (c' := (99, [.int a1, .long a2, vU, .long a3, vU], [.long 0], (zS I J tg))) rfl ?_
        subst h
        exact Runs.rt rfl
      · rw [if_neg c9] at h
        refine Runs.brF (P := (lg_cmp a2 a3) ≤ 0) (a := 98) (b := 94) (L := [.int a1, .long a2, vU, .long a3, vU]) (S := []) (z := (zS I J tg)) rfl c9 ?_
        refine Runs.sN 2 (c' := (99, [.int a1, .long a2, vU, .long a3, vU], [.long 1], (zS I J tg))) rfl ?_
        subst h
        exact Runs.rt rfl
    rw [if_neg c8] at h
    by_cases c10 : a1 = 12
    · rw [if_pos c10] at h
      refine Runs.to (c' := (100, [.int a1, .long a2, vU, .long a3, vU], [], (zS I J tg))) (Runs.swj rfl c10 rfl) ?_
      refine Runs.sN 3 (c' := (103, [.int a1, .long a2, vU, .long a3, vU], [.int (lg_cmp a2 a3)], (zS I J tg))) rfl ?_
      by_cases c11 : (lg_cmp a2 a3) < 0
      · rw [if_pos c11] at h
        refine Runs.brT (P := (lg_cmp a2 a3) < 0) (a := 110) (b := 106) (L := [.int a1, .long a2, vU, .long a3, vU]) (S := []) (z := (zS I J tg)) rfl c11 ?_
        refine Runs.sN 1 (c' := (111, [.int a1, .long a2, vU, .long a3, vU], [.long 0], (zS I J tg))) rfl ?_
        subst h
        exact Runs.rt rfl
      · rw [if_neg c11] at h
        refine Runs.brF (P := (lg_cmp a2 a3) < 0) (a := 110) (b := 106) (L := [.int a1, .long a2, vU, .long a3, vU]) (S := []) (z := (zS I J tg)) rfl c11 ?_
        refine Runs.sN 2 (c' := (111, [.int a1, .long a2, vU, .long a3, vU], [.long 1], (zS I J tg))) rfl ?_
        subst h
        exact Runs.rt rfl
    rw [if_neg c10] at h
    by_cases c12 : a1 = 13
    · rw [if_pos c12] at h
      refine Runs.to (c' := (112, [.int a1, .long a2, vU, .long a3, vU], [], (zS I J tg))) (Runs.swj rfl c12 rfl) ?_
      refine Runs.sN 3 (c' := (115, [.int a1, .long a2, vU, .long a3, vU], [.int (lg_cmp a2 a3)], (zS I J tg))) rfl ?_
      by_cases c13 : (lg_cmp a2 a3) = 0
      · rw [if_pos c13] at h
        refine Runs.brT (P := (lg_cmp a2 a3) = 0) (a := 118) (b := 122) (L := [.int a1, .long a2, vU, .long a3, vU]) (S := []) (z := (zS I J tg)) rfl c13 ?_
        refine Runs.sN 2 (c' := (123, [.int a1, .long a2, vU, .long a3, vU], [.long 1], (zS I J tg))) rfl ?_
        subst h
        exact Runs.rt rfl
      · rw [if_neg c13] at h
        refine Runs.brF (P := (lg_cmp a2 a3) = 0) (a := 118) (b := 122) (L := [.int a1, .long a2, vU, .long a3, vU]) (S := []) (z := (zS I J tg)) rfl c13 ?_
        refine Runs.sN 1 (c' := (123, [.int a1, .long a2, vU, .long a3, vU], [.long 0], (zS I J tg))) rfl ?_
        subst h
        exact Runs.rt rfl
    rw [if_neg c12] at h
    by_cases c14 : a1 = 14
    · rw [if_pos c14] at h
      refine Runs.to (c' := (124, [.int a1, .long a2, vU, .long a3, vU], [], (zS I J tg))) (Runs.swj rfl c14 rfl) ?_
      refine Runs.sN 3 (c' := (127, [.int a1, .long a2, vU, .long a3, vU], [.int (lg_cmp a2 a3)], (zS I J tg))) rfl ?_
      by_cases c15 : (lg_cmp a2 a3) = 0
      · rw [if_pos c15] at h
        refine Runs.brT (P := (lg_cmp a2 a3) = 0) (a := 134) (b := 130) (L := [.int a1, .long a2, vU, .long a3, vU]) (S := []) (z := (zS I J tg)) rfl c15 ?_
        refine Runs.sN 1 (c' := (135, [.int a1, .long a2, vU, .long a3, vU], [.long 0], (zS I J tg))) rfl ?_
        subst h
        exact Runs.rt rfl
      · rw [if_neg c15] at h
        refine Runs.brF (P := (lg_cmp a2 a3) = 0) (a := 134) (b := 130) (L := [.int a1, .long a2, vU, .long a3, vU]) (S := []) (z := (zS I J tg)) rfl c15 ?_
        refine Runs.sN 2 (c' := (135, [.int a1, .long a2, vU, .long a3, vU], [.long 1], (zS I J tg))) rfl ?_
        subst h
        exact Runs.rt rfl
    rw [if_neg c14] at h
    by_cases c16 : a1 = 15
    · rw [if_pos c16] at h
      refine Runs.to (c' := (136, [.int a1, .long a2, vU, .long a3, vU], [], (zS I J tg))) (Runs.swj rfl c16 rfl) ?_
      refine Runs.sN 3 (c' := (139, [.int a1, .long a2, vU, .long a3, vU], [.long (a2 + a3)], (zS I J tg))) rfl ?_
      subst h
      exact Runs.rt rfl
    rw [if_neg c16] at h
    by_cases c17 : a1 = 16
    · rw [if_pos c17] at h
      refine Runs.to (c' := (140, [.int a1, .long a2, vU, .long a3, vU], [], (zS I J tg))) (Runs.swj rfl c17 rfl) ?_
      refine Runs.sN 3 (c' := (143, [.int a1, .long a2, vU, .long a3, vU], [.long (a2 - a3)], (zS I J tg))) rfl ?_
      subst h
      exact Runs.rt rfl
    rw [if_neg c17] at h
    exact h.elim
-- X11_about 
theorem sg_161 {L d : Nat} {xs : Nat → Int32} (I : Nat → Nat → Int32) (J : Nat → Nat → Int64) (tg : Option Nat) (a1 : Int32) {r : Option Value × SS} (h : ((if Int32.toInt a1 < 0 ∨ 8 < Int32.toInt a1 then (∃ (v3 : Int32) (I4 : Nat → Nat → Int32), Runs (GW L xs) d 162 (0, [.ref 0, .int a1, vU], [], (zS I J tg)) ((some (.int v3)), (zS I4 J tg)) ∧ r = (some (.int v3), (zS I4 J tg))) else (if a1 = 0 then (r = (some (.int (I 7 4)), (zS I J tg))) else (if a1 = 1 then (r = (some (.int (I 1 0)), (zS I J tg))) else (if a1 = 2 then (r = (some (.int (I 1 1)), (zS I J tg))) else (if a1 = 3 then (r = (some (.int (I 18 0)), (zS I J tg))) else (if a1 = 4 then (r = (some (.int (I 18 1)), (zS I J tg))) else (if a1 = 5 then (r = (some (.int (I 18 2)), (zS I J tg))) else (if a1 = 6 then (r = (some (.int (I 18 3)), (zS I J tg))) else (if a1 = 7 then (r = (some (.int (I 7 5)), (zS I J tg))) else (if a1 = 8 then (r = (some (.int (I 67 2)), (zS I J tg))) else False)))))))))))) : Runs (GW L xs) (d + 1) 161 (0, [.ref 0, .int a1], [], (zS I J tg)) r := by
  refine Runs.sN 1 (c' := (1, [.ref 0, .int a1], [.int a1], (zS I J tg))) rfl ?_
  by_cases c5 : Int32.toInt a1 < 0 ∨ 8 < Int32.toInt a1
  · rw [if_pos c5] at h
    refine Runs.to (c' := (124, [.ref 0, .int a1], [], (zS I J tg))) (Runs.swd rfl c5) ?_
    refine Runs.sN 2 (c' := (126, [.ref 0, .int a1], [.int a1, .ref 0], (zS I J tg))) rfl ?_
    obtain ⟨v3, I4, c6, h⟩ := h
    refine Runs.cl (cm := 162) (as := [.ref 0, .int a1]) (rest := []) (r1 := ((some (.int v3)), (zS I4 J tg))) rfl (Nat.le_of_ble_eq_true rfl) c6 ?_
    refine Runs.as (c' := (129, [.ref 0, .int a1], [.int v3], (zS I4 J tg))) rfl ?_
    subst h
    exact Runs.rt rfl
  · rw [if_neg c5] at h
    by_cases c7 : a1 = 0
    · rw [if_pos c7] at h
      refine Runs.to (c' := (52, [.ref 0, .int a1], [], (zS I J tg))) (Runs.swj rfl c7 rfl) ?_
      refine Runs.sN 3 (c' := (59, [.ref 0, .int a1], [.int (I 7 4)], (zS I J tg))) rfl ?_
      subst h
      exact Runs.rt rfl
    rw [if_neg c7] at h
    by_cases c8 : a1 = 1
    · rw [if_pos c8] at h
      refine Runs.to (c' := (60, [.ref 0, .int a1], [], (zS I J tg))) (Runs.swj rfl c8 rfl) ?_
      refine Runs.sN 3 (c' := (67, [.ref 0, .int a1], [.int (I 1 0)], (zS I J tg))) rfl ?_
      subst h
      exact Runs.rt rfl
    rw [if_neg c8] at h
    by_cases c9 : a1 = 2
    · rw [if_pos c9] at h
      refine Runs.to (c' := (68, [.ref 0, .int a1], [], (zS I J tg))) (Runs.swj rfl c9 rfl) ?_
      refine Runs.sN 3 (c' := (75, [.ref 0, .int a1], [.int (I 1 1)], (zS I J tg))) rfl ?_
      subst h
      exact Runs.rt rfl
    rw [if_neg c9] at h
    by_cases c10 : a1 = 3
    · rw [if_pos c10] at h
      refine Runs.to (c' := (76, [.ref 0, .int a1], [], (zS I J tg))) (Runs.swj rfl c10 rfl) ?_
      refine Runs.sN 3 (c' := (83, [.ref 0, .int a1], [.int (I 18 0)], (zS I J tg))) rfl ?_
      subst h
      exact Runs.rt rfl
    rw [if_neg c10] at h
    by_cases c11 : a1 = 4
    · rw [if_pos c11] at h
      refine Runs.to (c' := (84, [.ref 0, .int a1], [], (zS I J tg))) (Runs.swj rfl c11 rfl) ?_
      refine Runs.sN 3 (c' := (91, [.ref 0, .int a1], [.int (I 18 1)], (zS I J tg))) rfl ?_
      subst h
      exact Runs.rt rfl
    rw [if_neg c11] at h
    by_cases c12 : a1 = 5
    · rw [if_pos c12] at h
      refine Runs.to (c' := (92, [.ref 0, .int a1], [], (zS I J tg))) (Runs.swj rfl c12 rfl) ?_
      refine Runs.sN 3 (c' := (99, [.ref 0, .int a1], [.int (I 18 2)], (zS I J tg))) rfl ?_
      subst h
      exact Runs.rt rfl
    rw [if_neg c12] at h
    by_cases c13 : a1 = 6
    · rw [if_pos c13] at h
      refine Runs.to (c' := (100, [.ref 0, .int a1], [], (zS I J tg))) (Runs.swj rfl c13 rfl) ?_
      refine Runs.sN 3 (c' := (107, [.ref 0, .int a1], [.int (I 18 3)], (zS I J tg))) rfl ?_
      subst h
      exact Runs.rt rfl
    rw [if_neg c13] at h
    by_cases c14 : a1 = 7
    · rw [if_pos c14] at h
      refine Runs.to (c' := (108, [.ref 0, .int a1], [], (zS I J tg))) (Runs.swj rfl c14 rfl) ?_
      refine Runs.sN 3 (c' := (115, [.ref 0, .int a1], [.int (I 7 5)], (zS I J tg))) rfl ?_
      subst h
      exact Runs.rt rfl
    rw [if_neg c14] at h
    by_cases c15 : a1 = 8
    · rw [if_pos c15] at h
      refine Runs.to (c' := (116, [.ref 0, .int a1], [], (zS I J tg))) (Runs.swj rfl c15 rfl) ?_
      refine Runs.sN 3 (c' := (123, [.ref 0, .int a1], [.int (I 67 2)], (zS I J tg))) rfl ?_
      subst h
      exact Runs.rt rfl
    rw [if_neg c15] at h
    exact h.elim
-- X12_about 
theorem sg_299 {L d : Nat} {xs : Nat → Int32} (I : Nat → Nat → Int32) (J : Nat → Nat → Int64) (tg : Option Nat) (a1 : Int32) {r : Option Value × SS} (h : (∃ (v10 : Int32) (I11 : Nat → Nat → Int32) (J12 : Nat → Nat → Int64), Runs (GW L xs) d 177 (0, [.int a1, .int 20, .int 43], [], (zS I J tg)) ((some (.int v10)), (zS I11 J12 tg)) ∧ (if v10 = 0 then ((if Int32.toInt a1 < 0 ∨ 8 < Int32.toInt a1 then (r = (some (.int (-1)), (zS I11 J12 tg))) else (if a1 = 0 then (r = (some (.int (I11 94 0)), (zS I11 J12 tg))) else (if a1 = 1 then (r = (some (.int (I11 94 1)), (zS I11 J12 tg))) else (if a1 = 2 then (r = (some (.int (I11 94 2)), (zS I11 J12 tg))) else (if a1 = 3 then (r = (some (.int (I11 94 3)), (zS I11 J12 tg))) else (if a1 = 4 then (r = (some (.int (I11 94 4)), (zS I11 J12 tg))) else (if a1 = 5 then (r = (some (.int (I11 94 5)), (zS I11 J12 tg))) else (if a1 = 6 then (r = (some (.int (I11 94 6)), (zS I11 J12 tg))) else (if a1 = 7 then (r = (some (.int (I11 94 7)), (zS I11 J12 tg))) else (if a1 = 8 then (r = (some (.int (I11 93 7)), (zS I11 J12 tg))) else False))))))))))) else (∃ (v13 : Int32) (I14 : Nat → Nat → Int32) (J15 : Nat → Nat → Int64), Runs (GW L xs) d 181 (0, [.ref 93, .int (a1 - 20)], [], (zS I11 J12 tg)) ((some (.int v13)), (zS I14 J15 tg)) ∧ (if v13 = 0 then (r = (some (.int (-1)), (zS I14 J15 tg))) else (∃ (v16 : Int32) (I17 : Nat → Nat → Int32) (J18 : Nat → Nat → Int64), Runs (GW L xs) d 184 (0, [.ref 93, .int (a1 - 20), .int 0], [], (zS I14 J15 tg)) ((some (.int v16)), (zS I17 J18 tg)) ∧ r = (some (.int v16), (zS I17 J18 tg)))))))) : Runs (GW L xs) (d + 1) 299 (0, [.ref 93, .int a1], [], (zS I J tg)) r := by
  refine Runs.sN 3 (c' := (5, [.ref 93, .int a1], [.int 43, .int 20, .int a1], (zS I J tg))) rfl ?_
  obtain ⟨v10, I11, J12, c19, h⟩ := h
  refine Runs.cl (cm := 177) (as := [.int a1, .int 20, .int 43]) (rest := []) (r1 := ((some (.int v10)), (zS I11 J12 tg))) rfl (Nat.le_of_ble_eq_true rfl) c19 ?_
  refine Runs.as (c' := (8, [.ref 93, .int a1], [.int v10], (zS I11 J12 tg))) rfl ?_
  by_cases c20 : v10 = 0
  · rw [if_pos c20] at h
    refine Runs.brT (P := v10 = 0) (a := 36) (b := 11) (L := [.ref 93, .int a1]) (S := []) (z := (zS I11 J12 tg)) rfl c20 ?_
    refine Runs.sN 1 (c' := (37, [.ref 93, .int a1], [.int a1], (zS I11 J12 tg))) rfl ?_
    by_cases c21 : Int32.toInt a1 < 0 ∨ 8 < Int32.toInt a1
    · rw [if_pos c21] at h
      refine Runs.to (c' := (151, [.ref 93, .int a1], [], (zS I11 J12 tg))) (Runs.swd rfl c21) ?_
      refine Runs.sN 1 (c' := (152, [.ref 93, .int a1], [.int (-1)], (zS I11 J12 tg))) rfl ?_
      subst h
      exact Runs.rt rfl
    · rw [if_neg c21] at h
      by_cases c22 : a1 = 0
      · rw [if_pos c22] at h
        refine Runs.to (c' := (88, [.ref 93, .int a1], [], (zS I11 J12 tg))) (Runs.swj rfl c22 rfl) ?_
        refine Runs.sN 4 (c' := (94, [.ref 93, .int a1], [.int (I11 94 0)], (zS I11 J12 tg))) rfl ?_
        subst h
        exact Runs.rt rfl
      rw [if_neg c22] at h
      by_cases c23 : a1 = 1
      · rw [if_pos c23] at h
        refine Runs.to (c' := (95, [.ref 93, .int a1], [], (zS I11 J12 tg))) (Runs.swj rfl c23 rfl) ?_
        refine Runs.sN 4 (c' := (101, [.ref 93, .int a1], [.int (I11 94 1)], (zS I11 J12 tg))) rfl ?_
        subst h
        exact Runs.rt rfl
      rw [if_neg c23] at h
      by_cases c24 : a1 = 2
      · rw [if_pos c24] at h
        refine Runs.to (c' := (102, [.ref 93, .int a1], [], (zS I11 J12 tg))) (Runs.swj rfl c24 rfl) ?_
        refine Runs.sN 4 (c' := (108, [.ref 93, .int a1], [.int (I11 94 2)], (zS I11 J12 tg))) rfl ?_
        subst h
        exact Runs.rt rfl
      rw [if_neg c24] at h
      by_cases c25 : a1 = 3
      · rw [if_pos c25] at h
        refine Runs.to (c' := (109, [.ref 93, .int a1], [], (zS I11 J12 tg))) (Runs.swj rfl c25 rfl) ?_
        refine Runs.sN 4 (c' := (115, [.ref 93, .int a1], [.int (I11 94 3)], (zS I11 J12 tg))) rfl ?_
        subst h
        exact Runs.rt rfl
      rw [if_neg c25] at h
      by_cases c26 : a1 = 4
      · rw [if_pos c26] at h
        refine Runs.to (c' := (116, [.ref 93, .int a1], [], (zS I11 J12 tg))) (Runs.swj rfl c26 rfl) ?_
        refine Runs.sN 4 (c' := (122, [.ref 93, .int a1], [.int (I11 94 4)], (zS I11 J12 tg))) rfl ?_
        subst h
        exact Runs.rt rfl
      rw [if_neg c26] at h
      by_cases c27 : a1 = 5
      · rw [if_pos c27] at h
        refine Runs.to (c' := (123, [.ref 93, .int a1], [], (zS I11 J12 tg))) (Runs.swj rfl c27 rfl) ?_
        refine Runs.sN 4 (c' := (129, [.ref 93, .int a1], [.int (I11 94 5)], (zS I11 J12 tg))) rfl ?_
        subst h
        exact Runs.rt rfl
      rw [if_neg c27] at h
      by_cases c28 : a1 = 6
      · rw [if_pos c28] at h
        refine Runs.to (c' := (130, [.ref 93, .int a1], [], (zS I11 J12 tg))) (Runs.swj rfl c28 rfl) ?_
        refine Runs.sN 4 (c' := (137, [.ref 93, .int a1], [.int (I11 94 6)], (zS I11 J12 tg))) rfl ?_
        subst h
        exact Runs.rt rfl
      rw [if_neg c28] at h
      by_cases c29 : a1 = 7
      · rw [if_pos c29] at h
        refine Runs.to (c' := (138, [.ref 93, .int a1], [], (zS I11 J12 tg))) (Runs.swj rfl c29 rfl) ?_
        refine Runs.sN 4 (c' := (145, [.ref 93, .int a1], [.int (I11 94 7)], (zS I11 J12 tg))) rfl ?_
        subst h
        exact Runs.rt rfl
      rw [if_neg c29] at h
      by_cases c30 : a1 = 8
      · rw [if_pos c30] at h
        refine Runs.to (c' := (146, [.ref 93, .int a1], [], (zS I11 J12 tg))) (Runs.swj rfl c30 rfl) ?_
        refine Runs.sN 2 (c' := (150, [.ref 93, .int a1], [.int (I11 93 7)], (zS I11 J12 tg))) rfl ?_
        subst h
        exact Runs.rt rfl
      rw [if_neg c30] at h
      exact h.elim
  · rw [if_neg c20] at h
    refine Runs.brF (P := v10 = 0) (a := 36) (b := 11) (L := [.ref 93, .int a1]) (S := []) (z := (zS I11 J12 tg)) rfl c20 ?_
    refine Runs.sN 4 (c' := (16, [.ref 93, .int a1], [.int (a1 - 20), .ref 93], (zS I11 J12 tg))) rfl ?_
    obtain ⟨v13, I14, J15, c31, h⟩ := h
    refine Runs.cl (cm := 181) (as := [.ref 93, .int (a1 - 20)]) (rest := []) (r1 := ((some (.int v13)), (zS I14 J15 tg))) rfl (Nat.le_of_ble_eq_true rfl) c31 ?_
    refine Runs.as (c' := (19, [.ref 93, .int a1], [.int v13], (zS I14 J15 tg))) rfl ?_
    by_cases c32 : v13 = 0
    · rw [if_pos c32] at h
      refine Runs.brT (P := v13 = 0) (a := 34) (b := 22) (L := [.ref 93, .int a1]) (S := []) (z := (zS I14 J15 tg)) rfl c32 ?_
      refine Runs.sN 1 (c' := (35, [.ref 93, .int a1], [.int (-1)], (zS I14 J15 tg))) rfl ?_
      subst h
      exact Runs.rt rfl
    · rw [if_neg c32] at h
      refine Runs.brF (P := v13 = 0) (a := 34) (b := 22) (L := [.ref 93, .int a1]) (S := []) (z := (zS I14 J15 tg)) rfl c32 ?_
      refine Runs.sN 5 (c' := (28, [.ref 93, .int a1], [.int 0, .int (a1 - 20), .ref 93], (zS I14 J15 tg))) rfl ?_
      obtain ⟨v16, I17, J18, c33, h⟩ := h
      refine Runs.cl (cm := 184) (as := [.ref 93, .int (a1 - 20), .int 0]) (rest := []) (r1 := ((some (.int v16)), (zS I17 J18 tg))) rfl (Nat.le_of_ble_eq_true rfl) c33 ?_
      refine Runs.as (c' := (31, [.ref 93, .int a1], [.int v16], (zS I17 J18 tg))) rfl ?_
      refine Runs.sN 1 (c' := (35, [.ref 93, .int a1], [.int v16], (zS I17 J18 tg))) rfl ?_
      subst h
      exact Runs.rt rfl
-- X8_begin t47
theorem sg_70t47 {L d : Nat} {xs : Nat → Int32} (I : Nat → Nat → Int32) (J : Nat → Nat → Int64) (tg : Option Nat) {r : Option Value × SS} (h : (∃ (I2 : Nat → Nat → Int32), Runs (GW L xs) d 21 (0, [.ref 47], [], (zS I J (some 47))) (none, (zS I2 J (some 47))) ∧ r = (none, (zS (up2 (up2 (up2 (up2 (up2 (up2 (up2 (up2 (up2 I2 67 3 1) 67 4 0) 67 5 (-1)) 67 7 0) 67 9 0) 67 10 0) 67 11 0) 67 15 0) 67 12 1) J (some 47))))) : Runs (GW L xs) (d + 1) 70 (0, [.ref 67, .ref 47], [], (zS I J tg)) r := by
  refine Runs.sN 2 (c' := (2, [.ref 67, .ref 47], [.ref 47, .ref 67], (zS I J tg))) rfl ?_
  refine Runs.to (c' := (5, [.ref 67, .ref 47], [], (zS I J (some 47)))) (Runs.tpt rfl rfl rfl rfl (by decide)) ?_
  refine Runs.sN 2 (c' := (9, [.ref 67, .ref 47], [.ref 47], (zS I J (some 47)))) rfl ?_
  obtain ⟨I2, c3, h⟩ := h
  refine Runs.cl (cm := 21) (as := [.ref 47]) (rest := []) (r1 := (none, (zS I2 J (some 47)))) rfl (Nat.le_of_ble_eq_true rfl) c3 ?_
  refine Runs.as (c' := (12, [.ref 67, .ref 47], [], (zS I2 J (some 47)))) rfl ?_
  refine Runs.sN 27 (c' := (57, [.ref 67, .ref 47], [], (zS (up2 (up2 (up2 (up2 (up2 (up2 (up2 (up2 (up2 I2 67 3 1) 67 4 0) 67 5 (-1)) 67 7 0) 67 9 0) 67 10 0) 67 11 0) 67 15 0) 67 12 1) J (some 47)))) rfl ?_
  subst h
  exact Runs.rt rfl
-- X8_parse t47
theorem sg_71t47 {L d : Nat} {xs : Nat → Int32} (I : Nat → Nat → Int32) (J : Nat → Nat → Int64) (tg : Option Nat) {r : Option Value × SS} (h : (∃ (I14 : Nat → Nat → Int32), Runs (GW L xs) d 70 (0, [.ref 67, .ref 47], [], (zS I J tg)) (none, (zS I14 J (some 47))) ∧ Runs (GW L xs) (d + 1) 71 (7, [.ref 67, .ref 47, .int 0], [], (zS I14 J (some 47))) r)) : Runs (GW L xs) (d + 1) 71 (0, [.ref 67, .ref 47, vU], [], (zS I J tg)) r := by
  refine Runs.sN 2 (c' := (2, [.ref 67, .ref 47, vU], [.ref 47, .ref 67], (zS I J tg))) rfl ?_
  obtain ⟨I14, c15, h⟩ := h
  refine Runs.cl (cm := 70) (as := [.ref 67, .ref 47]) (rest := []) (r1 := (none, (zS I14 J (some 47)))) rfl (Nat.le_of_ble_eq_true rfl) c15 ?_
  refine Runs.as (c' := (5, [.ref 67, .ref 47, vU], [], (zS I14 J (some 47)))) rfl ?_
  refine Runs.sN 2 (c' := (7, [.ref 67, .ref 47, .int 0], [], (zS I14 J (some 47)))) rfl ?_
  exact h
theorem sg_71t47_7 {L d : Nat} {xs : Nat → Int32} (I : Nat → Nat → Int32) (J : Nat → Nat → Int64) (tg : Option Nat) (x2 : Int32) {r : Option Value × SS} (h : ((if 300 < x2 then ((if (I 67 4) = 0 then ((if (I 67 4) = 0 then (r = (some (.int 1), (zS (up2 I 67 2 0) J (some 47)))) else (r = (some (.int 0), (zS (up2 I 67 2 0) J (some 47)))))) else ((if (I 67 4) = 0 then (r = (some (.int 1), (zS (up2 (up2 I 67 5 (I 67 14)) 67 2 0) J (some 47)))) else (r = (some (.int 0), (zS (up2 (up2 I 67 5 (I 67 14)) 67 2 0) J (some 47)))))))) else ((if (I 67 12) = 0 then ((if (I 67 4) = 0 then ((if (I 67 4) = 0 then (r = (some (.int 1), (zS (up2 I 67 2 0) J (some 47)))) else (r = (some (.int 0), (zS (up2 I 67 2 0) J (some 47)))))) else ((if (I 67 4) = 0 then (r = (some (.int 1), (zS (up2 (up2 I 67 5 (I 67 14)) 67 2 0) J (some 47)))) else (r = (some (.int 0), (zS (up2 (up2 I 67 5 (I 67 14)) 67 2 0) J (some 47)))))))) else ((if (I 67 4) = 0 then (∃ (I1 : Nat → Nat → Int32), Runs (GW L xs) d 72 (0, [.ref 67, vU], [], (zS I J (some 47))) (none, (zS I1 J (some 47))) ∧ (if Int32.toInt (I1 67 7) < 0 ∨ 3 < Int32.toInt (I1 67 7) then (∃ (v10 : Int32) (I11 : Nat → Nat → Int32), Runs (GW L xs) d 85 (0, [.ref 67], [], (zS I1 J (some 47))) ((some (.int v10)), (zS I11 J (some 47))) ∧ Runs (GW L xs) (d + 1) 71 (7, [.ref 67, .ref 47, .int (x2 + 1)], [], (zS (up2 I11 67 4 v10) J (some 47))) r) else (if (I1 67 7) = 0 then (∃ (v2 : Int32) (I3 : Nat → Nat → Int32), Runs (GW L xs) d 80 (0, [.ref 67], [], (zS I1 J (some 47))) ((some (.int v2)), (zS I3 J (some 47))) ∧ Runs (GW L xs) (d + 1) 71 (7, [.ref 67, .ref 47, .int (x2 + 1)], [], (zS (up2 I3 67 4 v2) J (some 47))) r) else (if (I1 67 7) = 1 then (∃ (v4 : Int32) (I5 : Nat → Nat → Int32), Runs (GW L xs) d 81 (0, [.ref 67], [], (zS I1 J (some 47))) ((some (.int v4)), (zS I5 J (some 47))) ∧ Runs (GW L xs) (d + 1) 71 (7, [.ref 67, .ref 47, .int (x2 + 1)], [], (zS (up2 I5 67 4 v4) J (some 47))) r) else (if (I1 67 7) = 2 then (∃ (v6 : Int32) (I7 : Nat → Nat → Int32), Runs (GW L xs) d 82 (0, [.ref 67], [], (zS I1 J (some 47))) ((some (.int v6)), (zS I7 J (some 47))) ∧ Runs (GW L xs) (d + 1) 71 (7, [.ref 67, .ref 47, .int (x2 + 1)], [], (zS (up2 I7 67 4 v6) J (some 47))) r) else (if (I1 67 7) = 3 then (∃ (v8 : Int32) (I9 : Nat → Nat → Int32), Runs (GW L xs) d 84 (0, [.ref 67], [], (zS I1 J (some 47))) ((some (.int v8)), (zS I9 J (some 47))) ∧ Runs (GW L xs) (d + 1) 71 (7, [.ref 67, .ref 47, .int (x2 + 1)], [], (zS (up2 I9 67 4 v8) J (some 47))) r) else False)))))) else ((if (I 67 4) = 0 then ((if (I 67 4) = 0 then (r = (some (.int 1), (zS (up2 I 67 2 0) J (some 47)))) else (r = (some (.int 0), (zS (up2 I 67 2 0) J (some 47)))))) else ((if (I 67 4) = 0 then (r = (some (.int 1), (zS (up2 (up2 I 67 5 (I 67 14)) 67 2 0) J (some 47)))) else (r = (some (.int 0), (zS (up2 (up2 I 67 5 (I 67 14)) 67 2 0) J (some 47))))))))))))))) : Runs (GW L xs) (d + 1) 71 (7, [.ref 67, .ref 47, .int x2], [], (zS I J (some 47))) r := by
  refine Runs.sN 2 (c' := (11, [.ref 67, .ref 47, .int x2], [.int 300, .int x2], (zS I J (some 47)))) rfl ?_
  by_cases c12 : 300 < x2
  · rw [if_pos c12] at h
    refine Runs.brT (P := 300 < x2) (a := 126) (b := 14) (L := [.ref 67, .ref 47, .int x2]) (S := []) (z := (zS I J (some 47))) rfl c12 ?_
    refine Runs.sN 2 (c' := (130, [.ref 67, .ref 47, .int x2], [.int (I 67 4)], (zS I J (some 47)))) rfl ?_
    by_cases c13 : (I 67 4) = 0
    · rw [if_pos c13] at h
      refine Runs.brT (P := (I 67 4) = 0) (a := 141) (b := 133) (L := [.ref 67, .ref 47, .int x2]) (S := []) (z := (zS I J (some 47))) rfl c13 ?_
      refine Runs.sN 5 (c' := (150, [.ref 67, .ref 47, .int x2], [.int (I 67 4)], (zS (up2 I 67 2 0) J (some 47)))) rfl ?_
      by_cases c14 : (I 67 4) = 0
      · rw [if_pos c14] at h
        refine Runs.brT (P := (I 67 4) = 0) (a := 153) (b := 157) (L := [.ref 67, .ref 47, .int x2]) (S := []) (z := (zS (up2 I 67 2 0) J (some 47))) rfl c14 ?_
        refine Runs.sN 2 (c' := (158, [.ref 67, .ref 47, .int x2], [.int 1], (zS (up2 I 67 2 0) J (some 47)))) rfl ?_
        subst h
        exact Runs.rt rfl
      · rw [if_neg c14] at h
        refine Runs.brF (P := (I 67 4) = 0) (a := 153) (b := 157) (L := [.ref 67, .ref 47, .int x2]) (S := []) (z := (zS (up2 I 67 2 0) J (some 47))) rfl c14 ?_
        refine Runs.sN 1 (c' := (158, [.ref 67, .ref 47, .int x2], [.int 0], (zS (up2 I 67 2 0) J (some 47)))) rfl ?_
        subst h
        exact Runs.rt rfl
    · rw [if_neg c13] at h
      refine Runs.brF (P := (I 67 4) = 0) (a := 141) (b := 133) (L := [.ref 67, .ref 47, .int x2]) (S := []) (z := (zS I J (some 47))) rfl c13 ?_
      refine Runs.sN 9 (c' := (150, [.ref 67, .ref 47, .int x2], [.int (I 67 4)], (zS (up2 (up2 I 67 5 (I 67 14)) 67 2 0) J (some 47)))) rfl ?_
      by_cases c15 : (I 67 4) = 0
      · rw [if_pos c15] at h
        refine Runs.brT (P := (I 67 4) = 0) (a := 153) (b := 157) (L := [.ref 67, .ref 47, .int x2]) (S := []) (z := (zS (up2 (up2 I 67 5 (I 67 14)) 67 2 0) J (some 47))) rfl c15 ?_
        refine Runs.sN 2 (c' := (158, [.ref 67, .ref 47, .int x2], [.int 1], (zS (up2 (up2 I 67 5 (I 67 14)) 67 2 0) J (some 47)))) rfl ?_
        subst h
        exact Runs.rt rfl
      · rw [if_neg c15] at h
        refine Runs.brF (P := (I 67 4) = 0) (a := 153) (b := 157) (L := [.ref 67, .ref 47, .int x2]) (S := []) (z := (zS (up2 (up2 I 67 5 (I 67 14)) 67 2 0) J (some 47))) rfl c15 ?_
        refine Runs.sN 1 (c' := (158, [.ref 67, .ref 47, .int x2], [.int 0], (zS (up2 (up2 I 67 5 (I 67 14)) 67 2 0) J (some 47)))) rfl ?_
        subst h
        exact Runs.rt rfl
  · rw [if_neg c12] at h
    refine Runs.brF (P := 300 < x2) (a := 126) (b := 14) (L := [.ref 67, .ref 47, .int x2]) (S := []) (z := (zS I J (some 47))) rfl c12 ?_
    refine Runs.sN 2 (c' := (18, [.ref 67, .ref 47, .int x2], [.int (I 67 12)], (zS I J (some 47)))) rfl ?_
    by_cases c16 : (I 67 12) = 0
    · rw [if_pos c16] at h
      refine Runs.brT (P := (I 67 12) = 0) (a := 126) (b := 21) (L := [.ref 67, .ref 47, .int x2]) (S := []) (z := (zS I J (some 47))) rfl c16 ?_
      refine Runs.sN 2 (c' := (130, [.ref 67, .ref 47, .int x2], [.int (I 67 4)], (zS I J (some 47)))) rfl ?_
      by_cases c17 : (I 67 4) = 0
      · rw [if_pos c17] at h
        refine Runs.brT (P := (I 67 4) = 0) (a := 141) (b := 133) (L := [.ref 67, .ref 47, .int x2]) (S := []) (z := (zS I J (some 47))) rfl c17 ?_
        refine Runs.sN 5 (c' := (150, [.ref 67, .ref 47, .int x2], [.int (I 67 4)], (zS (up2 I 67 2 0) J (some 47)))) rfl ?_
        by_cases c18 : (I 67 4) = 0
        · rw [if_pos c18] at h
          refine Runs.brT (P := (I 67 4) = 0) (a := 153) (b := 157) (L := [.ref 67, .ref 47, .int x2]) (S := []) (z := (zS (up2 I 67 2 0) J (some 47))) rfl c18 ?_
          refine Runs.sN 2 (c' := (158, [.ref 67, .ref 47, .int x2], [.int 1], (zS (up2 I 67 2 0) J (some 47)))) rfl ?_
          subst h
          exact Runs.rt rfl
        · rw [if_neg c18] at h
          refine Runs.brF (P := (I 67 4) = 0) (a := 153) (b := 157) (L := [.ref 67, .ref 47, .int x2]) (S := []) (z := (zS (up2 I 67 2 0) J (some 47))) rfl c18 ?_
          refine Runs.sN 1 (c' := (158, [.ref 67, .ref 47, .int x2], [.int 0], (zS (up2 I 67 2 0) J (some 47)))) rfl ?_
          subst h
          exact Runs.rt rfl
      · rw [if_neg c17] at h
        refine Runs.brF (P := (I 67 4) = 0) (a := 141) (b := 133) (L := [.ref 67, .ref 47, .int x2]) (S := []) (z := (zS I J (some 47))) rfl c17 ?_
        refine Runs.sN 9 (c' := (150, [.ref 67, .ref 47, .int x2], [.int (I 67 4)], (zS (up2 (up2 I 67 5 (I 67 14)) 67 2 0) J (some 47)))) rfl ?_
        by_cases c19 : (I 67 4) = 0
        · rw [if_pos c19] at h
          refine Runs.brT (P := (I 67 4) = 0) (a := 153) (b := 157) (L := [.ref 67, .ref 47, .int x2]) (S := []) (z := (zS (up2 (up2 I 67 5 (I 67 14)) 67 2 0) J (some 47))) rfl c19 ?_
          refine Runs.sN 2 (c' := (158, [.ref 67, .ref 47, .int x2], [.int 1], (zS (up2 (up2 I 67 5 (I 67 14)) 67 2 0) J (some 47)))) rfl ?_
          subst h
          exact Runs.rt rfl
        · rw [if_neg c19] at h
          refine Runs.brF (P := (I 67 4) = 0) (a := 153) (b := 157) (L := [.ref 67, .ref 47, .int x2]) (S := []) (z := (zS (up2 (up2 I 67 5 (I 67 14)) 67 2 0) J (some 47))) rfl c19 ?_
          refine Runs.sN 1 (c' := (158, [.ref 67, .ref 47, .int x2], [.int 0], (zS (up2 (up2 I 67 5 (I 67 14)) 67 2 0) J (some 47)))) rfl ?_
          subst h
          exact Runs.rt rfl
    · rw [if_neg c16] at h
      refine Runs.brF (P := (I 67 12) = 0) (a := 126) (b := 21) (L := [.ref 67, .ref 47, .int x2]) (S := []) (z := (zS I J (some 47))) rfl c16 ?_
      refine Runs.sN 2 (c' := (25, [.ref 67, .ref 47, .int x2], [.int (I 67 4)], (zS I J (some 47)))) rfl ?_
      by_cases c20 : (I 67 4) = 0
      · rw [if_pos c20] at h
        refine Runs.brT (P := (I 67 4) = 0) (a := 28) (b := 126) (L := [.ref 67, .ref 47, .int x2]) (S := []) (z := (zS I J (some 47))) rfl c20 ?_
        refine Runs.sN 1 (c' := (29, [.ref 67, .ref 47, .int x2], [.ref 67], (zS I J (some 47)))) rfl ?_
        obtain ⟨I1, c21, h⟩ := h
        refine Runs.cl (cm := 72) (as := [.ref 67]) (rest := []) (r1 := (none, (zS I1 J (some 47)))) rfl (Nat.le_of_ble_eq_true rfl) c21 ?_
        refine Runs.as (c' := (32, [.ref 67, .ref 47, .int x2], [], (zS I1 J (some 47)))) rfl ?_
        refine Runs.sN 2 (c' := (36, [.ref 67, .ref 47, .int x2], [.int (I1 67 7)], (zS I1 J (some 47)))) rfl ?_
        by_cases c22 : Int32.toInt (I1 67 7) < 0 ∨ 3 < Int32.toInt (I1 67 7)
        · rw [if_pos c22] at h
          refine Runs.to (c' := (112, [.ref 67, .ref 47, .int x2], [], (zS I1 J (some 47)))) (Runs.swd rfl c22) ?_
          refine Runs.sN 2 (c' := (114, [.ref 67, .ref 47, .int x2], [.ref 67, .ref 67], (zS I1 J (some 47)))) rfl ?_
          obtain ⟨v10, I11, c23, h⟩ := h
          refine Runs.cl (cm := 85) (as := [.ref 67]) (rest := [.ref 67]) (r1 := ((some (.int v10)), (zS I11 J (some 47)))) rfl (Nat.le_of_ble_eq_true rfl) c23 ?_
          refine Runs.as (c' := (117, [.ref 67, .ref 47, .int x2], [.int v10, .ref 67], (zS I11 J (some 47)))) rfl ?_
          refine Runs.sN 3 (c' := (7, [.ref 67, .ref 47, .int (x2 + 1)], [], (zS (up2 I11 67 4 v10) J (some 47)))) rfl ?_
          exact h
        · rw [if_neg c22] at h
          by_cases c24 : (I1 67 7) = 0
          · rw [if_pos c24] at h
            refine Runs.to (c' := (68, [.ref 67, .ref 47, .int x2], [], (zS I1 J (some 47)))) (Runs.swj rfl c24 rfl) ?_
            refine Runs.sN 2 (c' := (70, [.ref 67, .ref 47, .int x2], [.ref 67, .ref 67], (zS I1 J (some 47)))) rfl ?_
            obtain ⟨v2, I3, c25, h⟩ := h
            refine Runs.cl (cm := 80) (as := [.ref 67]) (rest := [.ref 67]) (r1 := ((some (.int v2)), (zS I3 J (some 47)))) rfl (Nat.le_of_ble_eq_true rfl) c25 ?_
            refine Runs.as (c' := (73, [.ref 67, .ref 47, .int x2], [.int v2, .ref 67], (zS I3 J (some 47)))) rfl ?_
            refine Runs.sN 4 (c' := (7, [.ref 67, .ref 47, .int (x2 + 1)], [], (zS (up2 I3 67 4 v2) J (some 47)))) rfl ?_
            exact h
          rw [if_neg c24] at h
          by_cases c26 : (I1 67 7) = 1
          · rw [if_pos c26] at h
            refine Runs.to (c' := (79, [.ref 67, .ref 47, .int x2], [], (zS I1 J (some 47)))) (Runs.swj rfl c26 rfl) ?_
            refine Runs.sN 2 (c' := (81, [.ref 67, .ref 47, .int x2], [.ref 67, .ref 67], (zS I1 J (some 47)))) rfl ?_
            obtain ⟨v4, I5, c27, h⟩ := h
            refine Runs.cl (cm := 81) (as := [.ref 67]) (rest := [.ref 67]) (r1 := ((some (.int v4)), (zS I5 J (some 47)))) rfl (Nat.le_of_ble_eq_true rfl) c27 ?_
            refine Runs.as (c' := (84, [.ref 67, .ref 47, .int x2], [.int v4, .ref 67], (zS I5 J (some 47)))) rfl ?_
            refine Runs.sN 4 (c' := (7, [.ref 67, .ref 47, .int (x2 + 1)], [], (zS (up2 I5 67 4 v4) J (some 47)))) rfl ?_
            exact h
          rw [if_neg c26] at h
          by_cases c28 : (I1 67 7) = 2
          · rw [if_pos c28] at h
            refine Runs.to (c' := (90, [.ref 67, .ref 47, .int x2], [], (zS I1 J (some 47)))) (Runs.swj rfl c28 rfl) ?_
            refine Runs.sN 2 (c' := (92, [.ref 67, .ref 47, .int x2], [.ref 67, .ref 67], (zS I1 J (some 47)))) rfl ?_
            obtain ⟨v6, I7, c29, h⟩ := h
            refine Runs.cl (cm := 82) (as := [.ref 67]) (rest := [.ref 67]) (r1 := ((some (.int v6)), (zS I7 J (some 47)))) rfl (Nat.le_of_ble_eq_true rfl) c29 ?_
            refine Runs.as (c' := (95, [.ref 67, .ref 47, .int x2], [.int v6, .ref 67], (zS I7 J (some 47)))) rfl ?_
            refine Runs.sN 4 (c' := (7, [.ref 67, .ref 47, .int (x2 + 1)], [], (zS (up2 I7 67 4 v6) J (some 47)))) rfl ?_
            exact h
          rw [if_neg c28] at h
          by_cases c30 : (I1 67 7) = 3
          · rw [if_pos c30] at h
            refine Runs.to (c' := (101, [.ref 67, .ref 47, .int x2], [], (zS I1 J (some 47)))) (Runs.swj rfl c30 rfl) ?_
            refine Runs.sN 2 (c' := (103, [.ref 67, .ref 47, .int x2], [.ref 67, .ref 67], (zS I1 J (some 47)))) rfl ?_
            obtain ⟨v8, I9, c31, h⟩ := h
            refine Runs.cl (cm := 84) (as := [.ref 67]) (rest := [.ref 67]) (r1 := ((some (.int v8)), (zS I9 J (some 47)))) rfl (Nat.le_of_ble_eq_true rfl) c31 ?_
            refine Runs.as (c' := (106, [.ref 67, .ref 47, .int x2], [.int v8, .ref 67], (zS I9 J (some 47)))) rfl ?_
            refine Runs.sN 4 (c' := (7, [.ref 67, .ref 47, .int (x2 + 1)], [], (zS (up2 I9 67 4 v8) J (some 47)))) rfl ?_
            exact h
          rw [if_neg c30] at h
          exact h.elim
      · rw [if_neg c20] at h
        refine Runs.brF (P := (I 67 4) = 0) (a := 28) (b := 126) (L := [.ref 67, .ref 47, .int x2]) (S := []) (z := (zS I J (some 47))) rfl c20 ?_
        refine Runs.sN 2 (c' := (130, [.ref 67, .ref 47, .int x2], [.int (I 67 4)], (zS I J (some 47)))) rfl ?_
        by_cases c32 : (I 67 4) = 0
        · rw [if_pos c32] at h
          refine Runs.brT (P := (I 67 4) = 0) (a := 141) (b := 133) (L := [.ref 67, .ref 47, .int x2]) (S := []) (z := (zS I J (some 47))) rfl c32 ?_
          refine Runs.sN 5 (c' := (150, [.ref 67, .ref 47, .int x2], [.int (I 67 4)], (zS (up2 I 67 2 0) J (some 47)))) rfl ?_
          by_cases c33 : (I 67 4) = 0
          · rw [if_pos c33] at h
            refine Runs.brT (P := (I 67 4) = 0) (a := 153) (b := 157) (L := [.ref 67, .ref 47, .int x2]) (S := []) (z := (zS (up2 I 67 2 0) J (some 47))) rfl c33 ?_
            refine Runs.sN 2 (c' := (158, [.ref 67, .ref 47, .int x2], [.int 1], (zS (up2 I 67 2 0) J (some 47)))) rfl ?_
            subst h
            exact Runs.rt rfl
          · rw [if_neg c33] at h
            refine Runs.brF (P := (I 67 4) = 0) (a := 153) (b := 157) (L := [.ref 67, .ref 47, .int x2]) (S := []) (z := (zS (up2 I 67 2 0) J (some 47))) rfl c33 ?_
            refine Runs.sN 1 (c' := (158, [.ref 67, .ref 47, .int x2], [.int 0], (zS (up2 I 67 2 0) J (some 47)))) rfl ?_
            subst h
            exact Runs.rt rfl
        · rw [if_neg c32] at h
          refine Runs.brF (P := (I 67 4) = 0) (a := 141) (b := 133) (L := [.ref 67, .ref 47, .int x2]) (S := []) (z := (zS I J (some 47))) rfl c32 ?_
          refine Runs.sN 9 (c' := (150, [.ref 67, .ref 47, .int x2], [.int (I 67 4)], (zS (up2 (up2 I 67 5 (I 67 14)) 67 2 0) J (some 47)))) rfl ?_
          by_cases c34 : (I 67 4) = 0
          · rw [if_pos c34] at h
            refine Runs.brT (P := (I 67 4) = 0) (a := 153) (b := 157) (L := [.ref 67, .ref 47, .int x2]) (S := []) (z := (zS (up2 (up2 I 67 5 (I 67 14)) 67 2 0) J (some 47))) rfl c34 ?_
            refine Runs.sN 2 (c' := (158, [.ref 67, .ref 47, .int x2], [.int 1], (zS (up2 (up2 I 67 5 (I 67 14)) 67 2 0) J (some 47)))) rfl ?_
            subst h
            exact Runs.rt rfl
          · rw [if_neg c34] at h
            refine Runs.brF (P := (I 67 4) = 0) (a := 153) (b := 157) (L := [.ref 67, .ref 47, .int x2]) (S := []) (z := (zS (up2 (up2 I 67 5 (I 67 14)) 67 2 0) J (some 47))) rfl c34 ?_
            refine Runs.sN 1 (c' := (158, [.ref 67, .ref 47, .int x2], [.int 0], (zS (up2 (up2 I 67 5 (I 67 14)) 67 2 0) J (some 47)))) rfl ?_
            subst h
            exact Runs.rt rfl
-- X11_grammar t47
theorem sg_128t47 {L d : Nat} {xs : Nat → Int32} (I : Nat → Nat → Int32) (J : Nat → Nat → Int64) (tg : Option Nat) {r : Option Value × SS} (h : ((if (I 18 0) < 4 then ((I 18 0) = 0 ∧ ∃ (v3 : Int32) (I4 : Nat → Nat → Int32), Runs (GW L xs) d 71 (0, [.ref 67, .ref 47, vU], [], (zS I J tg)) ((some (.int v3)), (zS I4 J (some 47))) ∧ (if v3 = 0 then (r = (some (.int (-1)), (zS I4 J (some 47)))) else (r = (some (.int (((I4 18 0) + 1) - 1)), (zS (up2 I4 18 0 ((I4 18 0) + 1)) J (some 47)))))) else (r = (some (.int (-1)), (zS I J tg)))))) : Runs (GW L xs) (d + 1) 128 (0, [.ref 0], [], (zS I J tg)) r := by
  refine Runs.sN 4 (c' := (8, [.ref 0], [.int 4, .int (I 18 0)], (zS I J tg))) rfl ?_
  by_cases c5 : (I 18 0) < 4
  · rw [if_pos c5] at h
    refine Runs.brT (P := (I 18 0) < 4) (a := 13) (b := 11) (L := [.ref 0]) (S := []) (z := (zS I J tg)) rfl c5 ?_
    refine Runs.sN 7 (c' := (28, [.ref 0], [.int (I 18 0), .ref 46, .ref 67], (zS I J tg))) rfl ?_
    obtain ⟨c6, h⟩ := h
    refine Runs.to (c' := (29, [.ref 0], [.ref 47, .ref 67], (zS I J tg))) (by rw [c6]; rfl) ?_
    obtain ⟨v3, I4, c7, h⟩ := h
    refine Runs.cl (cm := 71) (as := [.ref 67, .ref 47]) (rest := []) (r1 := ((some (.int v3)), (zS I4 J (some 47)))) rfl (Nat.le_of_ble_eq_true rfl) c7 ?_
    refine Runs.as (c' := (32, [.ref 0], [.int v3], (zS I4 J (some 47)))) rfl ?_
    by_cases c8 : v3 = 0
    · rw [if_pos c8] at h
      refine Runs.brT (P := v3 = 0) (a := 35) (b := 37) (L := [.ref 0]) (S := []) (z := (zS I4 J (some 47))) rfl c8 ?_
      refine Runs.sN 1 (c' := (36, [.ref 0], [.int (-1)], (zS I4 J (some 47)))) rfl ?_
      subst h
      exact Runs.rt rfl
    · rw [if_neg c8] at h
      refine Runs.brF (P := v3 = 0) (a := 35) (b := 37) (L := [.ref 0]) (S := []) (z := (zS I4 J (some 47))) rfl c8 ?_
      refine Runs.sN 12 (c' := (59, [.ref 0], [.int (((I4 18 0) + 1) - 1)], (zS (up2 I4 18 0 ((I4 18 0) + 1)) J (some 47)))) rfl ?_
      subst h
      exact Runs.rt rfl
  · rw [if_neg c5] at h
    refine Runs.brF (P := (I 18 0) < 4) (a := 13) (b := 11) (L := [.ref 0]) (S := []) (z := (zS I J tg)) rfl c5 ?_
    refine Runs.sN 1 (c' := (12, [.ref 0], [.int (-1)], (zS I J tg))) rfl ?_
    subst h
    exact Runs.rt rfl
-- X8_begin t51
theorem sg_70t51 {L d : Nat} {xs : Nat → Int32} (I : Nat → Nat → Int32) (J : Nat → Nat → Int64) (tg : Option Nat) {r : Option Value × SS} (h : (∃ (I2 : Nat → Nat → Int32), Runs (GW L xs) d 21 (0, [.ref 51], [], (zS I J (some 51))) (none, (zS I2 J (some 51))) ∧ r = (none, (zS (up2 (up2 (up2 (up2 (up2 (up2 (up2 (up2 (up2 I2 67 3 1) 67 4 0) 67 5 (-1)) 67 7 0) 67 9 0) 67 10 0) 67 11 0) 67 15 0) 67 12 1) J (some 51))))) : Runs (GW L xs) (d + 1) 70 (0, [.ref 67, .ref 51], [], (zS I J tg)) r := by
  refine Runs.sN 2 (c' := (2, [.ref 67, .ref 51], [.ref 51, .ref 67], (zS I J tg))) rfl ?_
  refine Runs.to (c' := (5, [.ref 67, .ref 51], [], (zS I J (some 51)))) (Runs.tpt rfl rfl rfl rfl (by decide)) ?_
  refine Runs.sN 2 (c' := (9, [.ref 67, .ref 51], [.ref 51], (zS I J (some 51)))) rfl ?_
  obtain ⟨I2, c3, h⟩ := h
  refine Runs.cl (cm := 21) (as := [.ref 51]) (rest := []) (r1 := (none, (zS I2 J (some 51)))) rfl (Nat.le_of_ble_eq_true rfl) c3 ?_
  refine Runs.as (c' := (12, [.ref 67, .ref 51], [], (zS I2 J (some 51)))) rfl ?_
  refine Runs.sN 27 (c' := (57, [.ref 67, .ref 51], [], (zS (up2 (up2 (up2 (up2 (up2 (up2 (up2 (up2 (up2 I2 67 3 1) 67 4 0) 67 5 (-1)) 67 7 0) 67 9 0) 67 10 0) 67 11 0) 67 15 0) 67 12 1) J (some 51)))) rfl ?_
  subst h
  exact Runs.rt rfl
-- X8_parse t51
theorem sg_71t51 {L d : Nat} {xs : Nat → Int32} (I : Nat → Nat → Int32) (J : Nat → Nat → Int64) (tg : Option Nat) {r : Option Value × SS} (h : (∃ (I14 : Nat → Nat → Int32), Runs (GW L xs) d 70 (0, [.ref 67, .ref 51], [], (zS I J tg)) (none, (zS I14 J (some 51))) ∧ Runs (GW L xs) (d + 1) 71 (7, [.ref 67, .ref 51, .int 0], [], (zS I14 J (some 51))) r)) : Runs (GW L xs) (d + 1) 71 (0, [.ref 67, .ref 51, vU], [], (zS I J tg)) r := by
  refine Runs.sN 2 (c' := (2, [.ref 67, .ref 51, vU], [.ref 51, .ref 67], (zS I J tg))) rfl ?_
  obtain ⟨I14, c15, h⟩ := h
  refine Runs.cl (cm := 70) (as := [.ref 67, .ref 51]) (rest := []) (r1 := (none, (zS I14 J (some 51)))) rfl (Nat.le_of_ble_eq_true rfl) c15 ?_
  refine Runs.as (c' := (5, [.ref 67, .ref 51, vU], [], (zS I14 J (some 51)))) rfl ?_
  refine Runs.sN 2 (c' := (7, [.ref 67, .ref 51, .int 0], [], (zS I14 J (some 51)))) rfl ?_
  exact h
theorem sg_71t51_7 {L d : Nat} {xs : Nat → Int32} (I : Nat → Nat → Int32) (J : Nat → Nat → Int64) (tg : Option Nat) (x2 : Int32) {r : Option Value × SS} (h : ((if 300 < x2 then ((if (I 67 4) = 0 then ((if (I 67 4) = 0 then (r = (some (.int 1), (zS (up2 I 67 2 0) J (some 51)))) else (r = (some (.int 0), (zS (up2 I 67 2 0) J (some 51)))))) else ((if (I 67 4) = 0 then (r = (some (.int 1), (zS (up2 (up2 I 67 5 (I 67 14)) 67 2 0) J (some 51)))) else (r = (some (.int 0), (zS (up2 (up2 I 67 5 (I 67 14)) 67 2 0) J (some 51)))))))) else ((if (I 67 12) = 0 then ((if (I 67 4) = 0 then ((if (I 67 4) = 0 then (r = (some (.int 1), (zS (up2 I 67 2 0) J (some 51)))) else (r = (some (.int 0), (zS (up2 I 67 2 0) J (some 51)))))) else ((if (I 67 4) = 0 then (r = (some (.int 1), (zS (up2 (up2 I 67 5 (I 67 14)) 67 2 0) J (some 51)))) else (r = (some (.int 0), (zS (up2 (up2 I 67 5 (I 67 14)) 67 2 0) J (some 51)))))))) else ((if (I 67 4) = 0 then (∃ (I1 : Nat → Nat → Int32), Runs (GW L xs) d 72 (0, [.ref 67, vU], [], (zS I J (some 51))) (none, (zS I1 J (some 51))) ∧ (if Int32.toInt (I1 67 7) < 0 ∨ 3 < Int32.toInt (I1 67 7) then (∃ (v10 : Int32) (I11 : Nat → Nat → Int32), Runs (GW L xs) d 85 (0, [.ref 67], [], (zS I1 J (some 51))) ((some (.int v10)), (zS I11 J (some 51))) ∧ Runs (GW L xs) (d + 1) 71 (7, [.ref 67, .ref 51, .int (x2 + 1)], [], (zS (up2 I11 67 4 v10) J (some 51))) r) else (if (I1 67 7) = 0 then (∃ (v2 : Int32) (I3 : Nat → Nat → Int32), Runs (GW L xs) d 80 (0, [.ref 67], [], (zS I1 J (some 51))) ((some (.int v2)), (zS I3 J (some 51))) ∧ Runs (GW L xs) (d + 1) 71 (7, [.ref 67, .ref 51, .int (x2 + 1)], [], (zS (up2 I3 67 4 v2) J (some 51))) r) else (if (I1 67 7) = 1 then (∃ (v4 : Int32) (I5 : Nat → Nat → Int32), Runs (GW L xs) d 81 (0, [.ref 67], [], (zS I1 J (some 51))) ((some (.int v4)), (zS I5 J (some 51))) ∧ Runs (GW L xs) (d + 1) 71 (7, [.ref 67, .ref 51, .int (x2 + 1)], [], (zS (up2 I5 67 4 v4) J (some 51))) r) else (if (I1 67 7) = 2 then (∃ (v6 : Int32) (I7 : Nat → Nat → Int32), Runs (GW L xs) d 82 (0, [.ref 67], [], (zS I1 J (some 51))) ((some (.int v6)), (zS I7 J (some 51))) ∧ Runs (GW L xs) (d + 1) 71 (7, [.ref 67, .ref 51, .int (x2 + 1)], [], (zS (up2 I7 67 4 v6) J (some 51))) r) else (if (I1 67 7) = 3 then (∃ (v8 : Int32) (I9 : Nat → Nat → Int32), Runs (GW L xs) d 84 (0, [.ref 67], [], (zS I1 J (some 51))) ((some (.int v8)), (zS I9 J (some 51))) ∧ Runs (GW L xs) (d + 1) 71 (7, [.ref 67, .ref 51, .int (x2 + 1)], [], (zS (up2 I9 67 4 v8) J (some 51))) r) else False)))))) else ((if (I 67 4) = 0 then ((if (I 67 4) = 0 then (r = (some (.int 1), (zS (up2 I 67 2 0) J (some 51)))) else (r = (some (.int 0), (zS (up2 I 67 2 0) J (some 51)))))) else ((if (I 67 4) = 0 then (r = (some (.int 1), (zS (up2 (up2 I 67 5 (I 67 14)) 67 2 0) J (some 51)))) else (r = (some (.int 0), (zS (up2 (up2 I 67 5 (I 67 14)) 67 2 0) J (some 51))))))))))))))) : Runs (GW L xs) (d + 1) 71 (7, [.ref 67, .ref 51, .int x2], [], (zS I J (some 51))) r := by
  refine Runs.sN 2 (c' := (11, [.ref 67, .ref 51, .int x2], [.int 300, .int x2], (zS I J (some 51)))) rfl ?_
  by_cases c12 : 300 < x2
  · rw [if_pos c12] at h
    refine Runs.brT (P := 300 < x2) (a := 126) (b := 14) (L := [.ref 67, .ref 51, .int x2]) (S := []) (z := (zS I J (some 51))) rfl c12 ?_
    refine Runs.sN 2 (c' := (130, [.ref 67, .ref 51, .int x2], [.int (I 67 4)], (zS I J (some 51)))) rfl ?_
    by_cases c13 : (I 67 4) = 0
    · rw [if_pos c13] at h
      refine Runs.brT (P := (I 67 4) = 0) (a := 141) (b := 133) (L := [.ref 67, .ref 51, .int x2]) (S := []) (z := (zS I J (some 51))) rfl c13 ?_
      refine Runs.sN 5 (c' := (150, [.ref 67, .ref 51, .int x2], [.int (I 67 4)], (zS (up2 I 67 2 0) J (some 51)))) rfl ?_
      by_cases c14 : (I 67 4) = 0
      · rw [if_pos c14] at h
        refine Runs.brT (P := (I 67 4) = 0) (a := 153) (b := 157) (L := [.ref 67, .ref 51, .int x2]) (S := []) (z := (zS (up2 I 67 2 0) J (some 51))) rfl c14 ?_
        refine Runs.sN 2 (c' := (158, [.ref 67, .ref 51, .int x2], [.int 1], (zS (up2 I 67 2 0) J (some 51)))) rfl ?_
        subst h
        exact Runs.rt rfl
      · rw [if_neg c14] at h
        refine Runs.brF (P := (I 67 4) = 0) (a := 153) (b := 157) (L := [.ref 67, .ref 51, .int x2]) (S := []) (z := (zS (up2 I 67 2 0) J (some 51))) rfl c14 ?_
        refine Runs.sN 1 (c' := (158, [.ref 67, .ref 51, .int x2], [.int 0], (zS (up2 I 67 2 0) J (some 51)))) rfl ?_
        subst h
        exact Runs.rt rfl
    · rw [if_neg c13] at h
      refine Runs.brF (P := (I 67 4) = 0) (a := 141) (b := 133) (L := [.ref 67, .ref 51, .int x2]) (S := []) (z := (zS I J (some 51))) rfl c13 ?_
      refine Runs.sN 9 (c' := (150, [.ref 67, .ref 51, .int x2], [.int (I 67 4)], (zS (up2 (up2 I 67 5 (I 67 14)) 67 2 0) J (some 51)))) rfl ?_
      by_cases c15 : (I 67 4) = 0
      · rw [if_pos c15] at h
        refine Runs.brT (P := (I 67 4) = 0) (a := 153) (b := 157) (L := [.ref 67, .ref 51, .int x2]) (S := []) (z := (zS (up2 (up2 I 67 5 (I 67 14)) 67 2 0) J (some 51))) rfl c15 ?_
        refine Runs.sN 2 (c' := (158, [.ref 67, .ref 51, .int x2], [.int 1], (zS (up2 (up2 I 67 5 (I 67 14)) 67 2 0) J (some 51)))) rfl ?_
        subst h
        exact Runs.rt rfl
      · rw [if_neg c15] at h
        refine Runs.brF (P := (I 67 4) = 0) (a := 153) (b := 157) (L := [.ref 67, .ref 51, .int x2]) (S := []) (z := (zS (up2 (up2 I 67 5 (I 67 14)) 67 2 0) J (some 51))) rfl c15 ?_
        refine Runs.sN 1 (c' := (158, [.ref 67, .ref 51, .int x2], [.int 0], (zS (up2 (up2 I 67 5 (I 67 14)) 67 2 0) J (some 51)))) rfl ?_
        subst h
        exact Runs.rt rfl
  · rw [if_neg c12] at h
    refine Runs.brF (P := 300 < x2) (a := 126) (b := 14) (L := [.ref 67, .ref 51, .int x2]) (S := []) (z := (zS I J (some 51))) rfl c12 ?_
    refine Runs.sN 2 (c' := (18, [.ref 67, .ref 51, .int x2], [.int (I 67 12)], (zS I J (some 51)))) rfl ?_
    by_cases c16 : (I 67 12) = 0
    · rw [if_pos c16] at h
      refine Runs.brT (P := (I 67 12) = 0) (a := 126) (b := 21) (L := [.ref 67, .ref 51, .int x2]) (S := []) (z := (zS I J (some 51))) rfl c16 ?_
      refine Runs.sN 2 (c' := (130, [.ref 67, .ref 51, .int x2], [.int (I 67 4)], (zS I J (some 51)))) rfl ?_
      by_cases c17 : (I 67 4) = 0
      · rw [if_pos c17] at h
        refine Runs.brT (P := (I 67 4) = 0) (a := 141) (b := 133) (L := [.ref 67, .ref 51, .int x2]) (S := []) (z := (zS I J (some 51))) rfl c17 ?_
        refine Runs.sN 5 (c' := (150, [.ref 67, .ref 51, .int x2], [.int (I 67 4)], (zS (up2 I 67 2 0) J (some 51)))) rfl ?_
        by_cases c18 : (I 67 4) = 0
        · rw [if_pos c18] at h
          refine Runs.brT (P := (I 67 4) = 0) (a := 153) (b := 157) (L := [.ref 67, .ref 51, .int x2]) (S := []) (z := (zS (up2 I 67 2 0) J (some 51))) rfl c18 ?_
          refine Runs.sN 2 (c' := (158, [.ref 67, .ref 51, .int x2], [.int 1], (zS (up2 I 67 2 0) J (some 51)))) rfl ?_
          subst h
          exact Runs.rt rfl
        · rw [if_neg c18] at h
          refine Runs.brF (P := (I 67 4) = 0) (a := 153) (b := 157) (L := [.ref 67, .ref 51, .int x2]) (S := []) (z := (zS (up2 I 67 2 0) J (some 51))) rfl c18 ?_
          refine Runs.sN 1 (c' := (158, [.ref 67, .ref 51, .int x2], [.int 0], (zS (up2 I 67 2 0) J (some 51)))) rfl ?_
          subst h
          exact Runs.rt rfl
      · rw [if_neg c17] at h
        refine Runs.brF (P := (I 67 4) = 0) (a := 141) (b := 133) (L := [.ref 67, .ref 51, .int x2]) (S := []) (z := (zS I J (some 51))) rfl c17 ?_
        refine Runs.sN 9 (c' := (150, [.ref 67, .ref 51, .int x2], [.int (I 67 4)], (zS (up2 (up2 I 67 5 (I 67 14)) 67 2 0) J (some 51)))) rfl ?_
        by_cases c19 : (I 67 4) = 0
        · rw [if_pos c19] at h
          refine Runs.brT (P := (I 67 4) = 0) (a := 153) (b := 157) (L := [.ref 67, .ref 51, .int x2]) (S := []) (z := (zS (up2 (up2 I 67 5 (I 67 14)) 67 2 0) J (some 51))) rfl c19 ?_
          refine Runs.sN 2 (c' := (158, [.ref 67, .ref 51, .int x2], [.int 1], (zS (up2 (up2 I 67 5 (I 67 14)) 67 2 0) J (some 51)))) rfl ?_
          subst h
          exact Runs.rt rfl
        · rw [if_neg c19] at h
          refine Runs.brF (P := (I 67 4) = 0) (a := 153) (b := 157) (L := [.ref 67, .ref 51, .int x2]) (S := []) (z := (zS (up2 (up2 I 67 5 (I 67 14)) 67 2 0) J (some 51))) rfl c19 ?_
          refine Runs.sN 1 (c' := (158, [.ref 67, .ref 51, .int x2], [.int 0], (zS (up2 (up2 I 67 5 (I 67 14)) 67 2 0) J (some 51)))) rfl ?_
          subst h
          exact Runs.rt rfl
    · rw [if_neg c16] at h
      refine Runs.brF (P := (I 67 12) = 0) (a := 126) (b := 21) (L := [.ref 67, .ref 51, .int x2]) (S := []) (z := (zS I J (some 51))) rfl c16 ?_
      refine Runs.sN 2 (c' := (25, [.ref 67, .ref 51, .int x2], [.int (I 67 4)], (zS I J (some 51)))) rfl ?_
      by_cases c20 : (I 67 4) = 0
      · rw [if_pos c20] at h
        refine Runs.brT (P := (I 67 4) = 0) (a := 28) (b := 126) (L := [.ref 67, .ref 51, .int x2]) (S := []) (z := (zS I J (some 51))) rfl c20 ?_
        refine Runs.sN 1 (c' := (29, [.ref 67, .ref 51, .int x2], [.ref 67], (zS I J (some 51)))) rfl ?_
        obtain ⟨I1, c21, h⟩ := h
        refine Runs.cl (cm := 72) (as := [.ref 67]) (rest := []) (r1 := (none, (zS I1 J (some 51)))) rfl (Nat.le_of_ble_eq_true rfl) c21 ?_
        refine Runs.as (c' := (32, [.ref 67, .ref 51, .int x2], [], (zS I1 J (some 51)))) rfl ?_
        refine Runs.sN 2 (c' := (36, [.ref 67, .ref 51, .int x2], [.int (I1 67 7)], (zS I1 J (some 51)))) rfl ?_
        by_cases c22 : Int32.toInt (I1 67 7) < 0 ∨ 3 < Int32.toInt (I1 67 7)
        · rw [if_pos c22] at h
          refine Runs.to (c' := (112, [.ref 67, .ref 51, .int x2], [], (zS I1 J (some 51)))) (Runs.swd rfl c22) ?_
          refine Runs.sN 2 (c' := (114, [.ref 67, .ref 51, .int x2], [.ref 67, .ref 67], (zS I1 J (some 51)))) rfl ?_
          obtain ⟨v10, I11, c23, h⟩ := h
          refine Runs.cl (cm := 85) (as := [.ref 67]) (rest := [.ref 67]) (r1 := ((some (.int v10)), (zS I11 J (some 51)))) rfl (Nat.le_of_ble_eq_true rfl) c23 ?_
          refine Runs.as (c' := (117, [.ref 67, .ref 51, .int x2], [.int v10, .ref 67], (zS I11 J (some 51)))) rfl ?_
          refine Runs.sN 3 (c' := (7, [.ref 67, .ref 51, .int (x2 + 1)], [], (zS (up2 I11 67 4 v10) J (some 51)))) rfl ?_
          exact h
        · rw [if_neg c22] at h
          by_cases c24 : (I1 67 7) = 0
          · rw [if_pos c24] at h
            refine Runs.to (c' := (68, [.ref 67, .ref 51, .int x2], [], (zS I1 J (some 51)))) (Runs.swj rfl c24 rfl) ?_
            refine Runs.sN 2 (c' := (70, [.ref 67, .ref 51, .int x2], [.ref 67, .ref 67], (zS I1 J (some 51)))) rfl ?_
            obtain ⟨v2, I3, c25, h⟩ := h
            refine Runs.cl (cm := 80) (as := [.ref 67]) (rest := [.ref 67]) (r1 := ((some (.int v2)), (zS I3 J (some 51)))) rfl (Nat.le_of_ble_eq_true rfl) c25 ?_
            refine Runs.as (c' := (73, [.ref 67, .ref 51, .int x2], [.int v2, .ref 67], (zS I3 J (some 51)))) rfl ?_
            refine Runs.sN 4 (c' := (7, [.ref 67, .ref 51, .int (x2 + 1)], [], (zS (up2 I3 67 4 v2) J (some 51)))) rfl ?_
            exact h
          rw [if_neg c24] at h
          by_cases c26 : (I1 67 7) = 1
          · rw [if_pos c26] at h
            refine Runs.to (c' := (79, [.ref 67, .ref 51, .int x2], [], (zS I1 J (some 51)))) (Runs.swj rfl c26 rfl) ?_
            refine Runs.sN 2 (c' := (81, [.ref 67, .ref 51, .int x2], [.ref 67, .ref 67], (zS I1 J (some 51)))) rfl ?_
            obtain ⟨v4, I5, c27, h⟩ := h
            refine Runs.cl (cm := 81) (as := [.ref 67]) (rest := [.ref 67]) (r1 := ((some (.int v4)), (zS I5 J (some 51)))) rfl (Nat.le_of_ble_eq_true rfl) c27 ?_
            refine Runs.as (c' := (84, [.ref 67, .ref 51, .int x2], [.int v4, .ref 67], (zS I5 J (some 51)))) rfl ?_
            refine Runs.sN 4 (c' := (7, [.ref 67, .ref 51, .int (x2 + 1)], [], (zS (up2 I5 67 4 v4) J (some 51)))) rfl ?_
            exact h
          rw [if_neg c26] at h
          by_cases c28 : (I1 67 7) = 2
          · rw [if_pos c28] at h
            refine Runs.to (c' := (90, [.ref 67, .ref 51, .int x2], [], (zS I1 J (some 51)))) (Runs.swj rfl c28 rfl) ?_
            refine Runs.sN 2 (c' := (92, [.ref 67, .ref 51, .int x2], [.ref 67, .ref 67], (zS I1 J (some 51)))) rfl ?_
            obtain ⟨v6, I7, c29, h⟩ := h
            refine Runs.cl (cm := 82) (as := [.ref 67]) (rest := [.ref 67]) (r1 := ((some (.int v6)), (zS I7 J (some 51)))) rfl (Nat.le_of_ble_eq_true rfl) c29 ?_
            refine Runs.as (c' := (95, [.ref 67, .ref 51, .int x2], [.int v6, .ref 67], (zS I7 J (some 51)))) rfl ?_
            refine Runs.sN 4 (c' := (7, [.ref 67, .ref 51, .int (x2 + 1)], [], (zS (up2 I7 67 4 v6) J (some 51)))) rfl ?_
            exact h
          rw [if_neg c28] at h
          by_cases c30 : (I1 67 7) = 3
          · rw [if_pos c30] at h
            refine Runs.to (c' := (101, [.ref 67, .ref 51, .int x2], [], (zS I1 J (some 51)))) (Runs.swj rfl c30 rfl) ?_
            refine Runs.sN 2 (c' := (103, [.ref 67, .ref 51, .int x2], [.ref 67, .ref 67], (zS I1 J (some 51)))) rfl ?_
            obtain ⟨v8, I9, c31, h⟩ := h
            refine Runs.cl (cm := 84) (as := [.ref 67]) (rest := [.ref 67]) (r1 := ((some (.int v8)), (zS I9 J (some 51)))) rfl (Nat.le_of_ble_eq_true rfl) c31 ?_
            refine Runs.as (c' := (106, [.ref 67, .ref 51, .int x2], [.int v8, .ref 67], (zS I9 J (some 51)))) rfl ?_
            refine Runs.sN 4 (c' := (7, [.ref 67, .ref 51, .int (x2 + 1)], [], (zS (up2 I9 67 4 v8) J (some 51)))) rfl ?_
            exact h
          rw [if_neg c30] at h
          exact h.elim
      · rw [if_neg c20] at h
        refine Runs.brF (P := (I 67 4) = 0) (a := 28) (b := 126) (L := [.ref 67, .ref 51, .int x2]) (S := []) (z := (zS I J (some 51))) rfl c20 ?_
        refine Runs.sN 2 (c' := (130, [.ref 67, .ref 51, .int x2], [.int (I 67 4)], (zS I J (some 51)))) rfl ?_
        by_cases c32 : (I 67 4) = 0
        · rw [if_pos c32] at h
          refine Runs.brT (P := (I 67 4) = 0) (a := 141) (b := 133) (L := [.ref 67, .ref 51, .int x2]) (S := []) (z := (zS I J (some 51))) rfl c32 ?_
          refine Runs.sN 5 (c' := (150, [.ref 67, .ref 51, .int x2], [.int (I 67 4)], (zS (up2 I 67 2 0) J (some 51)))) rfl ?_
          by_cases c33 : (I 67 4) = 0
          · rw [if_pos c33] at h
            refine Runs.brT (P := (I 67 4) = 0) (a := 153) (b := 157) (L := [.ref 67, .ref 51, .int x2]) (S := []) (z := (zS (up2 I 67 2 0) J (some 51))) rfl c33 ?_
            refine Runs.sN 2 (c' := (158, [.ref 67, .ref 51, .int x2], [.int 1], (zS (up2 I 67 2 0) J (some 51)))) rfl ?_
            subst h
            exact Runs.rt rfl
          · rw [if_neg c33] at h
            refine Runs.brF (P := (I 67 4) = 0) (a := 153) (b := 157) (L := [.ref 67, .ref 51, .int x2]) (S := []) (z := (zS (up2 I 67 2 0) J (some 51))) rfl c33 ?_
            refine Runs.sN 1 (c' := (158, [.ref 67, .ref 51, .int x2], [.int 0], (zS (up2 I 67 2 0) J (some 51)))) rfl ?_
            subst h
            exact Runs.rt rfl
        · rw [if_neg c32] at h
          refine Runs.brF (P := (I 67 4) = 0) (a := 141) (b := 133) (L := [.ref 67, .ref 51, .int x2]) (S := []) (z := (zS I J (some 51))) rfl c32 ?_
          refine Runs.sN 9 (c' := (150, [.ref 67, .ref 51, .int x2], [.int (I 67 4)], (zS (up2 (up2 I 67 5 (I 67 14)) 67 2 0) J (some 51)))) rfl ?_
          by_cases c34 : (I 67 4) = 0
          · rw [if_pos c34] at h
            refine Runs.brT (P := (I 67 4) = 0) (a := 153) (b := 157) (L := [.ref 67, .ref 51, .int x2]) (S := []) (z := (zS (up2 (up2 I 67 5 (I 67 14)) 67 2 0) J (some 51))) rfl c34 ?_
            refine Runs.sN 2 (c' := (158, [.ref 67, .ref 51, .int x2], [.int 1], (zS (up2 (up2 I 67 5 (I 67 14)) 67 2 0) J (some 51)))) rfl ?_
            subst h
            exact Runs.rt rfl
          · rw [if_neg c34] at h
            refine Runs.brF (P := (I 67 4) = 0) (a := 153) (b := 157) (L := [.ref 67, .ref 51, .int x2]) (S := []) (z := (zS (up2 (up2 I 67 5 (I 67 14)) 67 2 0) J (some 51))) rfl c34 ?_
            refine Runs.sN 1 (c' := (158, [.ref 67, .ref 51, .int x2], [.int 0], (zS (up2 (up2 I 67 5 (I 67 14)) 67 2 0) J (some 51)))) rfl ?_
            subst h
            exact Runs.rt rfl
-- X11_grammar t51
theorem sg_128t51 {L d : Nat} {xs : Nat → Int32} (I : Nat → Nat → Int32) (J : Nat → Nat → Int64) (tg : Option Nat) {r : Option Value × SS} (h : ((if (I 18 0) < 4 then ((I 18 0) = 1 ∧ ∃ (v3 : Int32) (I4 : Nat → Nat → Int32), Runs (GW L xs) d 71 (0, [.ref 67, .ref 51, vU], [], (zS I J tg)) ((some (.int v3)), (zS I4 J (some 51))) ∧ (if v3 = 0 then (r = (some (.int (-1)), (zS I4 J (some 51)))) else (r = (some (.int (((I4 18 0) + 1) - 1)), (zS (up2 I4 18 0 ((I4 18 0) + 1)) J (some 51)))))) else (r = (some (.int (-1)), (zS I J tg)))))) : Runs (GW L xs) (d + 1) 128 (0, [.ref 0], [], (zS I J tg)) r := by
  refine Runs.sN 4 (c' := (8, [.ref 0], [.int 4, .int (I 18 0)], (zS I J tg))) rfl ?_
  by_cases c5 : (I 18 0) < 4
  · rw [if_pos c5] at h
    refine Runs.brT (P := (I 18 0) < 4) (a := 13) (b := 11) (L := [.ref 0]) (S := []) (z := (zS I J tg)) rfl c5 ?_
    refine Runs.sN 7 (c' := (28, [.ref 0], [.int (I 18 0), .ref 46, .ref 67], (zS I J tg))) rfl ?_
    obtain ⟨c6, h⟩ := h
    refine Runs.to (c' := (29, [.ref 0], [.ref 51, .ref 67], (zS I J tg))) (by rw [c6]; rfl) ?_
    obtain ⟨v3, I4, c7, h⟩ := h
    refine Runs.cl (cm := 71) (as := [.ref 67, .ref 51]) (rest := []) (r1 := ((some (.int v3)), (zS I4 J (some 51)))) rfl (Nat.le_of_ble_eq_true rfl) c7 ?_
    refine Runs.as (c' := (32, [.ref 0], [.int v3], (zS I4 J (some 51)))) rfl ?_
    by_cases c8 : v3 = 0
    · rw [if_pos c8] at h
      refine Runs.brT (P := v3 = 0) (a := 35) (b := 37) (L := [.ref 0]) (S := []) (z := (zS I4 J (some 51))) rfl c8 ?_
      refine Runs.sN 1 (c' := (36, [.ref 0], [.int (-1)], (zS I4 J (some 51)))) rfl ?_
      subst h
      exact Runs.rt rfl
    · rw [if_neg c8] at h
      refine Runs.brF (P := v3 = 0) (a := 35) (b := 37) (L := [.ref 0]) (S := []) (z := (zS I4 J (some 51))) rfl c8 ?_
      refine Runs.sN 12 (c' := (59, [.ref 0], [.int (((I4 18 0) + 1) - 1)], (zS (up2 I4 18 0 ((I4 18 0) + 1)) J (some 51)))) rfl ?_
      subst h
      exact Runs.rt rfl
  · rw [if_neg c5] at h
    refine Runs.brF (P := (I 18 0) < 4) (a := 13) (b := 11) (L := [.ref 0]) (S := []) (z := (zS I J tg)) rfl c5 ?_
    refine Runs.sN 1 (c' := (12, [.ref 0], [.int (-1)], (zS I J tg))) rfl ?_
    subst h
    exact Runs.rt rfl
-- X8_begin t55
theorem sg_70t55 {L d : Nat} {xs : Nat → Int32} (I : Nat → Nat → Int32) (J : Nat → Nat → Int64) (tg : Option Nat) {r : Option Value × SS} (h : (∃ (I2 : Nat → Nat → Int32), Runs (GW L xs) d 21 (0, [.ref 55], [], (zS I J (some 55))) (none, (zS I2 J (some 55))) ∧ r = (none, (zS (up2 (up2 (up2 (up2 (up2 (up2 (up2 (up2 (up2 I2 67 3 1) 67 4 0) 67 5 (-1)) 67 7 0) 67 9 0) 67 10 0) 67 11 0) 67 15 0) 67 12 1) J (some 55))))) : Runs (GW L xs) (d + 1) 70 (0, [.ref 67, .ref 55], [], (zS I J tg)) r := by
  refine Runs.sN 2 (c' := (2, [.ref 67, .ref 55], [.ref 55, .ref 67], (zS I J tg))) rfl ?_
  refine Runs.to (c' := (5, [.ref 67, .ref 55], [], (zS I J (some 55)))) (Runs.tpt rfl rfl rfl rfl (by decide)) ?_
  refine Runs.sN 2 (c' := (9, [.ref 67, .ref 55], [.ref 55], (zS I J (some 55)))) rfl ?_
  obtain ⟨I2, c3, h⟩ := h
  refine Runs.cl (cm := 21) (as := [.ref 55]) (rest := []) (r1 := (none, (zS I2 J (some 55)))) rfl (Nat.le_of_ble_eq_true rfl) c3 ?_
  refine Runs.as (c' := (12, [.ref 67, .ref 55], [], (zS I2 J (some 55)))) rfl ?_
  refine Runs.sN 27 (c' := (57, [.ref 67, .ref 55], [], (zS (up2 (up2 (up2 (up2 (up2 (up2 (up2 (up2 (up2 I2 67 3 1) 67 4 0) 67 5 (-1)) 67 7 0) 67 9 0) 67 10 0) 67 11 0) 67 15 0) 67 12 1) J (some 55)))) rfl ?_
  subst h
  exact Runs.rt rfl
