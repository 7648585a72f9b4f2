-- X8_parse t55
theorem sg_71t55 {L d : Nat} {xs : Nat → Int32} (I : Nat → Nat → Int32) (J : Nat → Nat → Int64) (tg : Option Nat) {r : Option Value × SS} (h : (∃ (I14 : Nat → Nat → Int32), Runs (GW L xs) d 70 (0, [.ref 67, .ref 55], [], (zS I J tg)) (none, (zS I14 J (some 55))) ∧ Runs (GW L xs) (d + 1) 71 (7, [.ref 67, .ref 55, .int 0], [], (zS I14 J (some 55))) r)) : Runs (GW L xs) (d + 1) 71 (0, [.ref 67, .ref 55, vU], [], (zS I J tg)) r := by
  refine Runs.sN 2 (c' := (2, [.ref 67, .ref 55, vU], [.ref 55, .ref 67], (zS I J tg))) rfl ?_
  obtain ⟨I14, c15, h⟩ := h
  refine Runs.cl (cm := 70) (as := [.ref 67, .ref 55]) (rest := []) (r1 := (none, (zS I14 J (some 55)))) rfl (Nat.le_of_ble_eq_true rfl) c15 ?_
  refine Runs.as (c' := (5, [.ref 67, .ref 55, vU], [], (zS I14 J (some 55)))) rfl ?_
  refine Runs.sN 2 (c' := (7, [.ref 67, .ref 55, .int 0], [], (zS I14 J (some 55)))) rfl ?_
  exact h
theorem sg_71t55_7 {L d : Nat} {xs : Nat → Int32} (I : Nat → Nat → Int32) (J : Nat → Nat → Int64) (tg : Option Nat) (x2 : Int32) {r : Option Value × SS} (h : ((if 300 < x2 then ((if (I 67 4) = 0 then ((if (I 67 4) = 0 then (r = (some (.int 1), (zS (up2 I 67 2 0) J (some 55)))) else (r = (some (.int 0), (zS (up2 I 67 2 0) J (some 55)))))) else ((if (I 67 4) = 0 then (r = (some (.int 1), (zS (up2 (up2 I 67 5 (I 67 14)) 67 2 0) J (some 55)))) else (r = (some (.int 0), (zS (up2 (up2 I 67 5 (I 67 14)) 67 2 0) J (some 55)))))))) else ((if (I 67 12) = 0 then ((if (I 67 4) = 0 then ((if (I 67 4) = 0 then (r = (some (.int 1), (zS (up2 I 67 2 0) J (some 55)))) else (r = (some (.int 0), (zS (up2 I 67 2 0) J (some 55)))))) else ((if (I 67 4) = 0 then (r = (some (.int 1), (zS (up2 (up2 I 67 5 (I 67 14)) 67 2 0) J (some 55)))) else (r = (some (.int 0), (zS (up2 (up2 I 67 5 (I 67 14)) 67 2 0) J (some 55)))))))) else ((if (I 67 4) = 0 then (∃ (I1 : Nat → Nat → Int32), Runs (GW L xs) d 72 (0, [.ref 67, vU], [], (zS I J (some 55))) (none, (zS I1 J (some 55))) ∧ (if Int32.toInt (I1 67 7) < 0 ∨ 3 < Int32.toInt (I1 67 7) then (∃ (v10 : Int32) (I11 : Nat → Nat → Int32), Runs (GW L xs) d 85 (0, [.ref 67], [], (zS I1 J (some 55))) ((some (.int v10)), (zS I11 J (some 55))) ∧ Runs (GW L xs) (d + 1) 71 (7, [.ref 67, .ref 55, .int (x2 + 1)], [], (zS (up2 I11 67 4 v10) J (some 55))) r) else (if (I1 67 7) = 0 then (∃ (v2 : Int32) (I3 : Nat → Nat → Int32), Runs (GW L xs) d 80 (0, [.ref 67], [], (zS I1 J (some 55))) ((some (.int v2)), (zS I3 J (some 55))) ∧ Runs (GW L xs) (d + 1) 71 (7, [.ref 67, .ref 55, .int (x2 + 1)], [], (zS (up2 I3 67 4 v2) J (some 55))) r) else (if (I1 67 7) = 1 then (∃ (v4 : Int32) (I5 : Nat → Nat → Int32), Runs (GW L xs) d 81 (0, [.ref 67], [], (zS I1 J (some 55))) ((some (.int v4)), (zS I5 J (some 55))) ∧ Runs (GW L xs) (d + 1) 71 (7, [.ref 67, .ref 55, .int (x2 + 1)], [], (zS (up2 I5 67 4 v4) J (some 55))) r) else (if (I1 67 7) = 2 then (∃ (v6 : Int32) (I7 : Nat → Nat → Int32), Runs (GW L xs) d 82 (0, [.ref 67], [], (zS I1 J (some 55))) ((some (.int v6)), (zS I7 J (some 55))) ∧ Runs (GW L xs) (d + 1) 71 (7, [.ref 67, .ref 55, .int (x2 + 1)], [], (zS (up2 I7 67 4 v6) J (some 55))) r) else (if (I1 67 7) = 3 then (∃ (v8 : Int32) (I9 : Nat → Nat → Int32), Runs (GW L xs) d 84 (0, [.ref 67], [], (zS I1 J (some 55))) ((some (.int v8)), (zS I9 J (some 55))) ∧ Runs (GW L xs) (d + 1) 71 (7, [.ref 67, .ref 55, .int (x2 + 1)], [], (zS (up2 I9 67 4 v8) J (some 55))) r) else False)))))) else ((if (I 67 4) = 0 then ((if (I 67 4) = 0 then (r = (some (.int 1), (zS (up2 I 67 2 0) J (some 55)))) else (r = (some (.int 0), (zS (up2 I 67 2 0) J (some 55)))))) else ((if (I 67 4) = 0 then (r = (some (.int 1), (zS (up2 (up2 I 67 5 (I 67 14)) 67 2 0) J (some 55)))) else (r = (some (.int 0), (zS (up2 (up2 I 67 5 (I 67 14)) 67 2 0) J (some 55))))))))))))))) : Runs (GW L xs) (d + 1) 71 (7, [.ref 67, .ref 55, .int x2], [], (zS I J (some 55))) r := by
  refine Runs.sN 2 (c' := (11, [.ref 67, .ref 55, .int x2], [.int 300, .int x2], (zS I J (some 55)))) rfl ?_
  by_cases c12 : 300 < x2
  · rw [if_pos c12] at h
    refine Runs.brT (P := 300 < x2) (a := 126) (b := 14) (L := [.ref 67, .ref 55, .int x2]) (S := []) (z := (zS I J (some 55))) rfl c12 ?_
    refine Runs.sN 2 (c' := (130, [.ref 67, .ref 55, .int x2], [.int (I 67 4)], (zS I J (some 55)))) rfl ?_
    by_cases c13 : (I 67 4) = 0
    · rw [if_pos c13] at h
      refine Runs.brT (P := (I 67 4) = 0) (a := 141) (b := 133) (L := [.ref 67, .ref 55, .int x2]) (S := []) (z := (zS I J (some 55))) rfl c13 ?_
      refine Runs.sN 5 (c' := (150, [.ref 67, .ref 55, .int x2], [.int (I 67 4)], (zS (up2 I 67 2 0) J (some 55)))) rfl ?_
      by_cases c14 : (I 67 4) = 0
      · rw [if_pos c14] at h
        refine Runs.brT (P := (I 67 4) = 0) (a := 153) (b := 157) (L := [.ref 67, .ref 55, .int x2]) (S := []) (z := (zS (up2 I 67 2 0) J (some 55))) rfl c14 ?_
        refine Runs.sN 2 (c' := (158, [.ref 67, .ref 55, .int x2], [.int 1], (zS (up2 I 67 2 0) J (some 55)))) rfl ?_
        subst h
        exact Runs.rt rfl
      · rw [if_neg c14] at h
        refine Runs.brF (P := (I 67 4) = 0) (a := 153) (b := 157) (L := [.ref 67, .ref 55, .int x2]) (S := []) (z := (zS (up2 I 67 2 0) J (some 55))) rfl c14 ?_
        refine Runs.sN 1 (c' := (158, [.ref 67, .ref 55, .int x2], [.int 0], (zS (up2 I 67 2 0) J (some 55)))) rfl ?_
        subst h
        exact Runs.rt rfl
    · rw [if_neg c13] at h
      refine Runs.brF (P := (I 67 4) = 0) (a := 141) (b := 133) (L := [.ref 67, .ref 55, .int x2]) (S := []) (z := (zS I J (some 55))) rfl c13 ?_
      refine Runs.sN 9 (c' := (150, [.ref 67, .ref 55, .int x2], [.int (I 67 4)], (zS (up2 (up2 I 67 5 (I 67 14)) 67 2 0) J (some 55)))) rfl ?_
      by_cases c15 : (I 67 4) = 0
      · rw [if_pos c15] at h
        refine Runs.brT (P := (I 67 4) = 0) (a := 153) (b := 157) (L := [.ref 67, .ref 55, .int x2]) (S := []) (z := (zS (up2 (up2 I 67 5 (I 67 14)) 67 2 0) J (some 55))) rfl c15 ?_
        refine Runs.sN 2 (c' := (158, [.ref 67, .ref 55, .int x2], [.int 1], (zS (up2 (up2 I 67 5 (I 67 14)) 67 2 0) J (some 55)))) rfl ?_
        subst h
        exact Runs.rt rfl
      · rw [if_neg c15] at h
        refine Runs.brF (P := (I 67 4) = 0) (a := 153) (b := 157) (L := [.ref 67, .ref 55, .int x2]) (S := []) (z := (zS (up2 (up2 I 67 5 (I 67 14)) 67 2 0) J (some 55))) rfl c15 ?_
        refine Runs.sN 1 (c' := (158, [.ref 67, .ref 55, .int x2], [.int 0], (zS (up2 (up2 I 67 5 (I 67 14)) 67 2 0) J (some 55)))) rfl ?_
        subst h
        exact Runs.rt rfl
  · rw [if_neg c12] at h
    refine Runs.brF (P := 300 < x2) (a := 126) (b := 14) (L := [.ref 67, .ref 55, .int x2]) (S := []) (z := (zS I J (some 55))) rfl c12 ?_
    refine Runs.sN 2 (c' := (18, [.ref 67, .ref 55, .int x2], [.int (I 67 12)], (zS I J (some 55)))) rfl ?_
    by_cases c16 : (I 67 12) = 0
    · rw [if_pos c16] at h
      refine Runs.brT (P := (I 67 12) = 0) (a := 126) (b := 21) (L := [.ref 67, .ref 55, .int x2]) (S := []) (z := (zS I J (some 55))) rfl c16 ?_
      refine Runs.sN 2 (c' := (130, [.ref 67, .ref 55, .int x2], [.int (I 67 4)], (zS I J (some 55)))) rfl ?_
      by_cases c17 : (I 67 4) = 0
      · rw [if_pos c17] at h
        refine Runs.brT (P := (I 67 4) = 0) (a := 141) (b := 133) (L := [.ref 67, .ref 55, .int x2]) (S := []) (z := (zS I J (some 55))) rfl c17 ?_
        refine Runs.sN 5 (c' := (150, [.ref 67, .ref 55, .int x2], [.int (I 67 4)], (zS (up2 I 67 2 0) J (some 55)))) rfl ?_
        by_cases c18 : (I 67 4) = 0
        · rw [if_pos c18] at h
          refine Runs.brT (P := (I 67 4) = 0) (a := 153) (b := 157) (L := [.ref 67, .ref 55, .int x2]) (S := []) (z := (zS (up2 I 67 2 0) J (some 55))) rfl c18 ?_
          refine Runs.sN 2 (c' := (158, [.ref 67, .ref 55, .int x2], [.int 1], (zS (up2 I 67 2 0) J (some 55)))) rfl ?_
          subst h
          exact Runs.rt rfl
        · rw [if_neg c18] at h
          refine Runs.brF (P := (I 67 4) = 0) (a := 153) (b := 157) (L := [.ref 67, .ref 55, .int x2]) (S := []) (z := (zS (up2 I 67 2 0) J (some 55))) rfl c18 ?_
          refine Runs.sN 1 (c' := (158, [.ref 67, .ref 55, .int x2], [.int 0], (zS (up2 I 67 2 0) J (some 55)))) rfl ?_
          subst h
          exact Runs.rt rfl
      · rw [if_neg c17] at h
        refine Runs.brF (P := (I 67 4) = 0) (a := 141) (b := 133) (L := [.ref 67, .ref 55, .int x2]) (S := []) (z := (zS I J (some 55))) rfl c17 ?_
        refine Runs.sN 9 (c' := (150, [.ref 67, .ref 55, .int x2], [.int (I 67 4)], (zS (up2 (up2 I 67 5 (I 67 14)) 67 2 0) J (some 55)))) rfl ?_
        by_cases c19 : (I 67 4) = 0
        · rw [if_pos c19] at h
          refine Runs.brT (P := (I 67 4) = 0) (a := 153) (b := 157) (L := [.ref 67, .ref 55, .int x2]) (S := []) (z := (zS (up2 (up2 I 67 5 (I 67 14)) 67 2 0) J (some 55))) rfl c19 ?_
          refine Runs.sN 2 (c' := (158, [.ref 67, .ref 55, .int x2], [.int 1], (zS (up2 (up2 I 67 5 (I 67 14)) 67 2 0) J (some 55)))) rfl ?_
          subst h
          exact Runs.rt rfl
        · rw [if_neg c19] at h
          refine Runs.brF (P := (I 67 4) = 0) (a := 153) (b := 157) (L := [.ref 67, .ref 55, .int x2]) (S := []) (z := (zS (up2 (up2 I 67 5 (I 67 14)) 67 2 0) J (some 55))) rfl c19 ?_
          refine Runs.sN 1 (c' := (158, [.ref 67, .ref 55, .int x2], [.int 0], (zS (up2 (up2 I 67 5 (I 67 14)) 67 2 0) J (some 55)))) rfl ?_
          subst h
          exact Runs.rt rfl
    · rw [if_neg c16] at h
      refine Runs.brF (P := (I 67 12) = 0) (a := 126) (b := 21) (L := [.ref 67, .ref 55, .int x2]) (S := []) (z := (zS I J (some 55))) rfl c16 ?_
      refine Runs.sN 2 (c' := (25, [.ref 67, .ref 55, .int x2], [.int (I 67 4)], (zS I J (some 55)))) rfl ?_
      by_cases c20 : (I 67 4) = 0
      · rw [if_pos c20] at h
        refine Runs.brT (P := (I 67 4) = 0) (a := 28) (b := 126) (L := [.ref 67, .ref 55, .int x2]) (S := []) (z := (zS I J (some 55))) rfl c20 ?_
        refine Runs.sN 1 (c' := (29, [.ref 67, .ref 55, .int x2], [.ref 67], (zS I J (some 55)))) rfl ?_
        obtain ⟨I1, c21, h⟩ := h
        refine Runs.cl (cm := 72) (as := [.ref 67]) (rest := []) (r1 := (none, (zS I1 J (some 55)))) rfl (Nat.le_of_ble_eq_true rfl) c21 ?_
        refine Runs.as (c' := (32, [.ref 67, .ref 55, .int x2], [], (zS I1 J (some 55)))) rfl ?_
        refine Runs.sN 2 (c' := (36, [.ref 67, .ref 55, .int x2], [.int (I1 67 7)], (zS I1 J (some 55)))) rfl ?_
        by_cases c22 : Int32.toInt (I1 67 7) < 0 ∨ 3 < Int32.toInt (I1 67 7)
        · rw [if_pos c22] at h
          refine Runs.to (c' := (112, [.ref 67, .ref 55, .int x2], [], (zS I1 J (some 55)))) (Runs.swd rfl c22) ?_
          refine Runs.sN 2 (c' := (114, [.ref 67, .ref 55, .int x2], [.ref 67, .ref 67], (zS I1 J (some 55)))) rfl ?_
          obtain ⟨v10, I11, c23, h⟩ := h
          refine Runs.cl (cm := 85) (as := [.ref 67]) (rest := [.ref 67]) (r1 := ((some (.int v10)), (zS I11 J (some 55)))) rfl (Nat.le_of_ble_eq_true rfl) c23 ?_
          refine Runs.as (c' := (117, [.ref 67, .ref 55, .int x2], [.int v10, .ref 67], (zS I11 J (some 55)))) rfl ?_
          refine Runs.sN 3 (c' := (7, [.ref 67, .ref 55, .int (x2 + 1)], [], (zS (up2 I11 67 4 v10) J (some 55)))) rfl ?_
          exact h
        · rw [if_neg c22] at h
          by_cases c24 : (I1 67 7) = 0
          · rw [if_pos c24] at h
            refine Runs.to (c' := (68, [.ref 67, .ref 55, .int x2], [], (zS I1 J (some 55)))) (Runs.swj rfl c24 rfl) ?_
            refine Runs.sN 2 (c' := (70, [.ref 67, .ref 55, .int x2], [.ref 67, .ref 67], (zS I1 J (some 55)))) rfl ?_
            obtain ⟨v2, I3, c25, h⟩ := h
            refine Runs.cl (cm := 80) (as := [.ref 67]) (rest := [.ref 67]) (r1 := ((some (.int v2)), (zS I3 J (some 55)))) rfl (Nat.le_of_ble_eq_true rfl) c25 ?_
            refine Runs.as (c' := (73, [.ref 67, .ref 55, .int x2], [.int v2, .ref 67], (zS I3 J (some 55)))) rfl ?_
            refine Runs.sN 4 (c' := (7, [.ref 67, .ref 55, .int (x2 + 1)], [], (zS (up2 I3 67 4 v2) J (some 55)))) rfl ?_
            exact h
          rw [if_neg c24] at h
          by_cases c26 : (I1 67 7) = 1
          · rw [if_pos c26] at h
            refine Runs.to (c' := (79, [.ref 67, .ref 55, .int x2], [], (zS I1 J (some 55)))) (Runs.swj rfl c26 rfl) ?_
            refine Runs.sN 2 (c' := (81, [.ref 67, .ref 55, .int x2], [.ref 67, .ref 67], (zS I1 J (some 55)))) rfl ?_
            obtain ⟨v4, I5, c27, h⟩ := h
            refine Runs.cl (cm := 81) (as := [.ref 67]) (rest := [.ref 67]) (r1 := ((some (.int v4)), (zS I5 J (some 55)))) rfl (Nat.le_of_ble_eq_true rfl) c27 ?_
            refine Runs.as (c' := (84, [.ref 67, .ref 55, .int x2], [.int v4, .ref 67], (zS I5 J (some 55)))) rfl ?_
            refine Runs.sN 4 (c' := (7, [.ref 67, .ref 55, .int (x2 + 1)], [], (zS (up2 I5 67 4 v4) J (some 55)))) rfl ?_
            exact h
          rw [if_neg c26] at h
          by_cases c28 : (I1 67 7) = 2
          · rw [if_pos c28] at h
            refine Runs.to (c' := (90, [.ref 67, .ref 55, .int x2], [], (zS I1 J (some 55)))) (Runs.swj rfl c28 rfl) ?_
            refine Runs.sN 2 (c' := (92, [.ref 67, .ref 55, .int x2], [.ref 67, .ref 67], (zS I1 J (some 55)))) rfl ?_
            obtain ⟨v6, I7, c29, h⟩ := h
            refine Runs.cl (cm := 82) (as := [.ref 67]) (rest := [.ref 67]) (r1 := ((some (.int v6)), (zS I7 J (some 55)))) rfl (Nat.le_of_ble_eq_true rfl) c29 ?_
            refine Runs.as (c' := (95, [.ref 67, .ref 55, .int x2], [.int v6, .ref 67], (zS I7 J (some 55)))) rfl ?_
            refine Runs.sN 4 (c' := (7, [.ref 67, .ref 55, .int (x2 + 1)], [], (zS (up2 I7 67 4 v6) J (some 55)))) rfl ?_
            exact h
          rw [if_neg c28] at h
          by_cases c30 : (I1 67 7) = 3
          · rw [if_pos c30] at h
            refine Runs.to (c' := (101, [.ref 67, .ref 55, .int x2], [], (zS I1 J (some 55)))) (Runs.swj rfl c30 rfl) ?_
            refine Runs.sN 2 (c' := (103, [.ref 67, .ref 55, .int x2], [.ref 67, .ref 67], (zS I1 J (some 55)))) rfl ?_
            obtain ⟨v8, I9, c31, h⟩ := h
            refine Runs.cl (cm := 84) (as := [.ref 67]) (rest := [.ref 67]) (r1 := ((some (.int v8)), (zS I9 J (some 55)))) rfl (Nat.le_of_ble_eq_true rfl) c31 ?_
            refine Runs.as (c' := (106, [.ref 67, .ref 55, .int x2], [.int v8, .ref 67], (zS I9 J (some 55)))) rfl ?_
            refine Runs.sN 4 (c' := (7, [.ref 67, .ref 55, .int (x2 + 1)], [], (zS (up2 I9 67 4 v8) J (some 55)))) rfl ?_
            exact h
          rw [if_neg c30] at h
          exact h.elim
      · rw [if_neg c20] at h
        refine Runs.brF (P := (I 67 4) = 0) (a := 28) (b := 126) (L := [.ref 67, .ref 55, .int x2]) (S := []) (z := (zS I J (some 55))) rfl c20 ?_
        refine Runs.sN 2 (c' := (130, [.ref 67, .ref 55, .int x2], [.int (I 67 4)], (zS I J (some 55)))) rfl ?_
        by_cases c32 : (I 67 4) = 0
        · rw [if_pos c32] at h
          refine Runs.brT (P := (I 67 4) = 0) (a := 141) (b := 133) (L := [.ref 67, .ref 55, .int x2]) (S := []) (z := (zS I J (some 55))) rfl c32 ?_
          refine Runs.sN 5 (c' := (150, [.ref 67, .ref 55, .int x2], [.int (I 67 4)], (zS (up2 I 67 2 0) J (some 55)))) rfl ?_
          by_cases c33 : (I 67 4) = 0
          · rw [if_pos c33] at h
            refine Runs.brT (P := (I 67 4) = 0) (a := 153) (b := 157) (L := [.ref 67, .ref 55, .int x2]) (S := []) (z := (zS (up2 I 67 2 0) J (some 55))) rfl c33 ?_
            refine Runs.sN 2 (c' := (158, [.ref 67, .ref 55, .int x2], [.int 1], (zS (up2 I 67 2 0) J (some 55)))) rfl ?_
            subst h
            exact Runs.rt rfl
          · rw [if_neg c33] at h
            refine Runs.brF (P := (I 67 4) = 0) (a := 153) (b := 157) (L := [.ref 67, .ref 55, .int x2]) (S := []) (z := (zS (up2 I 67 2 0) J (some 55))) rfl c33 ?_
            refine Runs.sN 1 (c' := (158, [.ref 67, .ref 55, .int x2], [.int 0], (zS (up2 I 67 2 0) J (some 55)))) rfl ?_
            subst h
            exact Runs.rt rfl
        · rw [if_neg c32] at h
          refine Runs.brF (P := (I 67 4) = 0) (a := 141) (b := 133) (L := [.ref 67, .ref 55, .int x2]) (S := []) (z := (zS I J (some 55))) rfl c32 ?_
          refine Runs.sN 9 (c' := (150, [.ref 67, .ref 55, .int x2], [.int (I 67 4)], (zS (up2 (up2 I 67 5 (I 67 14)) 67 2 0) J (some 55)))) rfl ?_
          by_cases c34 : (I 67 4) = 0
          · rw [if_pos c34] at h
            refine Runs.brT (P := (I 67 4) = 0) (a := 153) (b := 157) (L := [.ref 67, .ref 55, .int x2]) (S := []) (z := (zS (up2 (up2 I 67 5 (I 67 14)) 67 2 0) J (some 55))) rfl c34 ?_
            refine Runs.sN 2 (c' := (158, [.ref 67, .ref 55, .int x2], [.int 1], (zS (up2 (up2 I 67 5 (I 67 14)) 67 2 0) J (some 55)))) rfl ?_
            subst h
            exact Runs.rt rfl
          · rw [if_neg c34] at h
            refine Runs.brF (P := (I 67 4) = 0) (a := 153) (b := 157) (L := [.ref 67, .ref 55, .int x2]) (S := []) (z := (zS (up2 (up2 I 67 5 (I 67 14)) 67 2 0) J (some 55))) rfl c34 ?_
            refine Runs.sN 1 (c' := (158, [.ref 67, .ref 55, .int x2], [.int 0], (zS (up2 (up2 I 67 5 (I 67 14)) 67 2 0) J (some 55)))) rfl ?_
            subst h
            exact Runs.rt rfl
-- X11_grammar t55
theorem sg_128t55 {L d : Nat} {xs : Nat → Int32} (I : Nat → Nat → Int32) (J : Nat → Nat → Int64) (tg : Option Nat) {r : Option Value × SS} (h : ((if (I 18 0) < 4 then ((I 18 0) = 2 ∧ ∃ (v3 : Int32) (I4 : Nat → Nat → Int32), Runs (GW L xs) d 71 (0, [.ref 67, .ref 55, vU], [], (zS I J tg)) ((some (.int v3)), (zS I4 J (some 55))) ∧ (if v3 = 0 then (r = (some (.int (-1)), (zS I4 J (some 55)))) else (r = (some (.int (((I4 18 0) + 1) - 1)), (zS (up2 I4 18 0 ((I4 18 0) + 1)) J (some 55)))))) else (r = (some (.int (-1)), (zS I J tg)))))) : Runs (GW L xs) (d + 1) 128 (0, [.ref 0], [], (zS I J tg)) r := by
  refine Runs.sN 4 (c' := (8, [.ref 0], [.int 4, .int (I 18 0)], (zS I J tg))) rfl ?_
  by_cases c5 : (I 18 0) < 4
  · rw [if_pos c5] at h
    refine Runs.brT (P := (I 18 0) < 4) (a := 13) (b := 11) (L := [.ref 0]) (S := []) (z := (zS I J tg)) rfl c5 ?_
    refine Runs.sN 7 (c' := (28, [.ref 0], [.int (I 18 0), .ref 46, .ref 67], (zS I J tg))) rfl ?_
    obtain ⟨c6, h⟩ := h
    refine Runs.to (c' := (29, [.ref 0], [.ref 55, .ref 67], (zS I J tg))) (by rw [c6]; rfl) ?_
    obtain ⟨v3, I4, c7, h⟩ := h
    refine Runs.cl (cm := 71) (as := [.ref 67, .ref 55]) (rest := []) (r1 := ((some (.int v3)), (zS I4 J (some 55)))) rfl (Nat.le_of_ble_eq_true rfl) c7 ?_
    refine Runs.as (c' := (32, [.ref 0], [.int v3], (zS I4 J (some 55)))) rfl ?_
    by_cases c8 : v3 = 0
    · rw [if_pos c8] at h
      refine Runs.brT (P := v3 = 0) (a := 35) (b := 37) (L := [.ref 0]) (S := []) (z := (zS I4 J (some 55))) rfl c8 ?_
      refine Runs.sN 1 (c' := (36, [.ref 0], [.int (-1)], (zS I4 J (some 55)))) rfl ?_
      subst h
      exact Runs.rt rfl
    · rw [if_neg c8] at h
      refine Runs.brF (P := v3 = 0) (a := 35) (b := 37) (L := [.ref 0]) (S := []) (z := (zS I4 J (some 55))) rfl c8 ?_
      refine Runs.sN 12 (c' := (59, [.ref 0], [.int (((I4 18 0) + 1) - 1)], (zS (up2 I4 18 0 ((I4 18 0) + 1)) J (some 55)))) rfl ?_
      subst h
      exact Runs.rt rfl
  · rw [if_neg c5] at h
    refine Runs.brF (P := (I 18 0) < 4) (a := 13) (b := 11) (L := [.ref 0]) (S := []) (z := (zS I J tg)) rfl c5 ?_
    refine Runs.sN 1 (c' := (12, [.ref 0], [.int (-1)], (zS I J tg))) rfl ?_
    subst h
    exact Runs.rt rfl
-- X8_begin t59
theorem sg_70t59 {L d : Nat} {xs : Nat → Int32} (I : Nat → Nat → Int32) (J : Nat → Nat → Int64) (tg : Option Nat) {r : Option Value × SS} (h : (∃ (I2 : Nat → Nat → Int32), Runs (GW L xs) d 21 (0, [.ref 59], [], (zS I J (some 59))) (none, (zS I2 J (some 59))) ∧ r = (none, (zS (up2 (up2 (up2 (up2 (up2 (up2 (up2 (up2 (up2 I2 67 3 1) 67 4 0) 67 5 (-1)) 67 7 0) 67 9 0) 67 10 0) 67 11 0) 67 15 0) 67 12 1) J (some 59))))) : Runs (GW L xs) (d + 1) 70 (0, [.ref 67, .ref 59], [], (zS I J tg)) r := by
  refine Runs.sN 2 (c' := (2, [.ref 67, .ref 59], [.ref 59, .ref 67], (zS I J tg))) rfl ?_
  refine Runs.to (c' := (5, [.ref 67, .ref 59], [], (zS I J (some 59)))) (Runs.tpt rfl rfl rfl rfl (by decide)) ?_
  refine Runs.sN 2 (c' := (9, [.ref 67, .ref 59], [.ref 59], (zS I J (some 59)))) rfl ?_
  obtain ⟨I2, c3, h⟩ := h
  refine Runs.cl (cm := 21) (as := [.ref 59]) (rest := []) (r1 := (none, (zS I2 J (some 59)))) rfl (Nat.le_of_ble_eq_true rfl) c3 ?_
  refine Runs.as (c' := (12, [.ref 67, .ref 59], [], (zS I2 J (some 59)))) rfl ?_
  refine Runs.sN 27 (c' := (57, [.ref 67, .ref 59], [], (zS (up2 (up2 (up2 (up2 (up2 (up2 (up2 (up2 (up2 I2 67 3 1) 67 4 0) 67 5 (-1)) 67 7 0) 67 9 0) 67 10 0) 67 11 0) 67 15 0) 67 12 1) J (some 59)))) rfl ?_
  subst h
  exact Runs.rt rfl
-- X8_parse t59
theorem sg_71t59 {L d : Nat} {xs : Nat → Int32} (I : Nat → Nat → Int32) (J : Nat → Nat → Int64) (tg : Option Nat) {r : Option Value × SS} (h : (∃ (I14 : Nat → Nat → Int32), Runs (GW L xs) d 70 (0, [.ref 67, .ref 59], [], (zS I J tg)) (none, (zS I14 J (some 59))) ∧ Runs (GW L xs) (d + 1) 71 (7, [.ref 67, .ref 59, .int 0], [], (zS I14 J (some 59))) r)) : Runs (GW L xs) (d + 1) 71 (0, [.ref 67, .ref 59, vU], [], (zS I J tg)) r := by
  refine Runs.sN 2 (c' := (2, [.ref 67, .ref 59, vU], [.ref 59, .ref 67], (zS I J tg))) rfl ?_
  obtain ⟨I14, c15, h⟩ := h
  refine Runs.cl (cm := 70) (as := [.ref 67, .ref 59]) (rest := []) (r1 := (none, (zS I14 J (some 59)))) rfl (Nat.le_of_ble_eq_true rfl) c15 ?_
  refine Runs.as (c' := (5, [.ref 67, .ref 59, vU], [], (zS I14 J (some 59)))) rfl ?_
  refine Runs.sN 2 (c' := (7, [.ref 67, .ref 59, .int 0], [], (zS I14 J (some 59)))) rfl ?_
  exact h
theorem sg_71t59_7 {L d : Nat} {xs : Nat → Int32} (I : Nat → Nat → Int32) (J : Nat → Nat → Int64) (tg : Option Nat) (x2 : Int32) {r : Option Value × SS} (h : ((if 300 < x2 then ((if (I 67 4) = 0 then ((if (I 67 4) = 0 then (r = (some (.int 1), (zS (up2 I 67 2 0) J (some 59)))) else (r = (some (.int 0), (zS (up2 I 67 2 0) J (some 59)))))) else ((if (I 67 4) = 0 then (r = (some (.int 1), (zS (up2 (up2 I 67 5 (I 67 14)) 67 2 0) J (some 59)))) else (r = (some (.int 0), (zS (up2 (up2 I 67 5 (I 67 14)) 67 2 0) J (some 59)))))))) else ((if (I 67 12) = 0 then ((if (I 67 4) = 0 then ((if (I 67 4) = 0 then (r = (some (.int 1), (zS (up2 I 67 2 0) J (some 59)))) else (r = (some (.int 0), (zS (up2 I 67 2 0) J (some 59)))))) else ((if (I 67 4) = 0 then (r = (some (.int 1), (zS (up2 (up2 I 67 5 (I 67 14)) 67 2 0) J (some 59)))) else (r = (some (.int 0), (zS (up2 (up2 I 67 5 (I 67 14)) 67 2 0) J (some 59)))))))) else ((if (I 67 4) = 0 then (∃ (I1 : Nat → Nat → Int32), Runs (GW L xs) d 72 (0, [.ref 67, vU], [], (zS I J (some 59))) (none, (zS I1 J (some 59))) ∧ (if Int32.toInt (I1 67 7) < 0 ∨ 3 < Int32.toInt (I1 67 7) then (∃ (v10 : Int32) (I11 : Nat → Nat → Int32), Runs (GW L xs) d 85 (0, [.ref 67], [], (zS I1 J (some 59))) ((some (.int v10)), (zS I11 J (some 59))) ∧ Runs (GW L xs) (d + 1) 71 (7, [.ref 67, .ref 59, .int (x2 + 1)], [], (zS (up2 I11 67 4 v10) J (some 59))) r) else (if (I1 67 7) = 0 then (∃ (v2 : Int32) (I3 : Nat → Nat → Int32), Runs (GW L xs) d 80 (0, [.ref 67], [], (zS I1 J (some 59))) ((some (.int v2)), (zS I3 J (some 59))) ∧ Runs (GW L xs) (d + 1) 71 (7, [.ref 67, .ref 59, .int (x2 + 1)], [], (zS (up2 I3 67 4 v2) J (some 59))) r) else (if (I1 67 7) = 1 then (∃ (v4 : Int32) (I5 : Nat → Nat → Int32), Runs (GW L xs) d 81 (0, [.ref 67], [], (zS I1 J (some 59))) ((some (.int v4)), (zS I5 J (some 59))) ∧ Runs (GW L xs) (d + 1) 71 (7, [.ref 67, .ref 59, .int (x2 + 1)], [], (zS (up2 I5 67 4 v4) J (some 59))) r) else (if (I1 67 7) = 2 then (∃ (v6 : Int32) (I7 : Nat → Nat → Int32), Runs (GW L xs) d 82 (0, [.ref 67], [], (zS I1 J (some 59))) ((some (.int v6)), (zS I7 J (some 59))) ∧ Runs (GW L xs) (d + 1) 71 (7, [.ref 67, .ref 59, .int (x2 + 1)], [], (zS (up2 I7 67 4 v6) J (some 59))) r) else (if (I1 67 7) = 3 then (∃ (v8 : Int32) (I9 : Nat → Nat → Int32), Runs (GW L xs) d 84 (0, [.ref 67], [], (zS I1 J (some 59))) ((some (.int v8)), (zS I9 J (some 59))) ∧ Runs (GW L xs) (d + 1) 71 (7, [.ref 67, .ref 59, .int (x2 + 1)], [], (zS (up2 I9 67 4 v8) J (some 59))) r) else False)))))) else ((if (I 67 4) = 0 then ((if (I 67 4) = 0 then (r = (some (.int 1), (zS (up2 I 67 2 0) J (some 59)))) else (r = (some (.int 0), (zS (up2 I 67 2 0) J (some 59)))))) else ((if (I 67 4) = 0 then (r = (some (.int 1), (zS (up2 (up2 I 67 5 (I 67 14)) 67 2 0) J (some 59)))) else (r = (some (.int 0), (zS (up2 (up2 I 67 5 (I 67 14)) 67 2 0) J (some 59))))))))))))))) : Runs (GW L xs) (d + 1) 71 (7, [.ref 67, .ref 59, .int x2], [], (zS I J (some 59))) r := by
  refine Runs.sN 2 (c' := (11, [.ref 67, .ref 59, .int x2], [.int 300, .int x2], (zS I J (some 59)))) rfl ?_
  by_cases c12 : 300 < x2
  · rw [if_pos c12] at h
    refine Runs.brT (P := 300 < x2) (a := 126) (b := 14) (L := [.ref 67, .ref 59, .int x2]) (S := []) (z := (zS I J (some 59))) rfl c12 ?_
    refine Runs.sN 2 (c' := (130, [.ref 67, .ref 59, .int x2], [.int (I 67 4)], (zS I J (some 59)))) rfl ?_
    by_cases c13 : (I 67 4) = 0
    · rw [if_pos c13] at h
      refine Runs.brT (P := (I 67 4) = 0) (a := 141) (b := 133) (L := [.ref 67, .ref 59, .int x2]) (S := []) (z := (zS I J (some 59))) rfl c13 ?_
      refine Runs.sN 5 (c' := (150, [.ref 67, .ref 59, .int x2], [.int (I 67 4)], (zS (up2 I 67 2 0) J (some 59)))) rfl ?_
      by_cases c14 : (I 67 4) = 0
      · rw [if_pos c14] at h
        refine Runs.brT (P := (I 67 4) = 0) (a := 153) (b := 157) (L := [.ref 67, .ref 59, .int x2]) (S := []) (z := (zS (up2 I 67 2 0) J (some 59))) rfl c14 ?_
        refine Runs.sN 2 (c' := (158, [.ref 67, .ref 59, .int x2], [.int 1], (zS (up2 I 67 2 0) J (some 59)))) rfl ?_
        subst h
        exact Runs.rt rfl
      · rw [if_neg c14] at h
        refine Runs.brF (P := (I 67 4) = 0) (a := 153) (b := 157) (L := [.ref 67, .ref 59, .int x2]) (S := []) (z := (zS (up2 I 67 2 0) J (some 59))) rfl c14 ?_
        refine Runs.sN 1 (c' := (158, [.ref 67, .ref 59, .int x2], [.int 0], (zS (up2 I 67 2 0) J (some 59)))) rfl ?_
        subst h
        exact Runs.rt rfl
    · rw [if_neg c13] at h
      refine Runs.brF (P := (I 67 4) = 0) (a := 141) (b := 133) (L := [.ref 67, .ref 59, .int x2]) (S := []) (z := (zS I J (some 59))) rfl c13 ?_
      refine Runs.sN 9 (c' := (150, [.ref 67, .ref 59, .int x2], [.int (I 67 4)], (zS (up2 (up2 I 67 5 (I 67 14)) 67 2 0) J (some 59)))) rfl ?_
      by_cases c15 : (I 67 4) = 0
      · rw [if_pos c15] at h
        refine Runs.brT (P := (I 67 4) = 0) (a := 153) (b := 157) (L := [.ref 67, .ref 59, .int x2]) (S := []) (z := (zS (up2 (up2 I 67 5 (I 67 14)) 67 2 0) J (some 59))) rfl c15 ?_
        refine Runs.sN 2 (c' := (158, [.ref 67, .ref 59, .int x2], [.int 1], (zS (up2 (up2 I 67 5 (I 67 14)) 67 2 0) J (some 59)))) rfl ?_
        subst h
        exact Runs.rt rfl
      · rw [if_neg c15] at h
        refine Runs.brF (P := (I 67 4) = 0) (a := 153) (b := 157) (L := [.ref 67, .ref 59, .int x2]) (S := []) (z := (zS (up2 (up2 I 67 5 (I 67 14)) 67 2 0) J (some 59))) rfl c15 ?_
        refine Runs.sN 1 (c' := (158, [.ref 67, .ref 59, .int x2], [.int 0], (zS (up2 (up2 I 67 5 (I 67 14)) 67 2 0) J (some 59)))) rfl ?_
        subst h
        exact Runs.rt rfl
  · rw [if_neg c12] at h
    refine Runs.brF (P := 300 < x2) (a := 126) (b := 14) (L := [.ref 67, .ref 59, .int x2]) (S := []) (z := (zS I J (some 59))) rfl c12 ?_
    refine Runs.sN 2 (c' := (18, [.ref 67, .ref 59, .int x2], [.int (I 67 12)], (zS I J (some 59)))) rfl ?_
    by_cases c16 : (I 67 12) = 0
    · rw [if_pos c16] at h
      refine Runs.brT (P := (I 67 12) = 0) (a := 126) (b := 21) (L := [.ref 67, .ref 59, .int x2]) (S := []) (z := (zS I J (some 59))) rfl c16 ?_
      refine Runs.sN 2 (c' := (130, [.ref 67, .ref 59, .int x2], [.int (I 67 4)], (zS I J (some 59)))) rfl ?_
      by_cases c17 : (I 67 4) = 0
      · rw [if_pos c17] at h
        refine Runs.brT (P := (I 67 4) = 0) (a := 141) (b := 133) (L := [.ref 67, .ref 59, .int x2]) (S := []) (z := (zS I J (some 59))) rfl c17 ?_
        refine Runs.sN 5 (c' := (150, [.ref 67, .ref 59, .int x2], [.int (I 67 4)], (zS (up2 I 67 2 0) J (some 59)))) rfl ?_
        by_cases c18 : (I 67 4) = 0
        · rw [if_pos c18] at h
          refine Runs.brT (P := (I 67 4) = 0) (a := 153) (b := 157) (L := [.ref 67, .ref 59, .int x2]) (S := []) (z := (zS (up2 I 67 2 0) J (some 59))) rfl c18 ?_
          refine Runs.sN 2 (c' := (158, [.ref 67, .ref 59, .int x2], [.int 1], (zS (up2 I 67 2 0) J (some 59)))) rfl ?_
          subst h
          exact Runs.rt rfl
        · rw [if_neg c18] at h
          refine Runs.brF (P := (I 67 4) = 0) (a := 153) (b := 157) (L := [.ref 67, .ref 59, .int x2]) (S := []) (z := (zS (up2 I 67 2 0) J (some 59))) rfl c18 ?_
          refine Runs.sN 1 (c' := (158, [.ref 67, .ref 59, .int x2], [.int 0], (zS (up2 I 67 2 0) J (some 59)))) rfl ?_
          subst h
          exact Runs.rt rfl
      · rw [if_neg c17] at h
        refine Runs.brF (P := (I 67 4) = 0) (a := 141) (b := 133) (L := [.ref 67, .ref 59, .int x2]) (S := []) (z := (zS I J (some 59))) rfl c17 ?_
        refine Runs.sN 9 (c' := (150, [.ref 67, .ref 59, .int x2], [.int (I 67 4)], (zS (up2 (up2 I 67 5 (I 67 14)) 67 2 0) J (some 59)))) rfl ?_
        by_cases c19 : (I 67 4) = 0
        · rw [if_pos c19] at h
          refine Runs.brT (P := (I 67 4) = 0) (a := 153) (b := 157) (L := [.ref 67, .ref 59, .int x2]) (S := []) (z := (zS (up2 (up2 I 67 5 (I 67 14)) 67 2 0) J (some 59))) rfl c19 ?_
          refine Runs.sN 2 (c' := (158, [.ref 67, .ref 59, .int x2], [.int 1], (zS (up2 (up2 I 67 5 (I 67 14)) 67 2 0) J (some 59)))) rfl ?_
          subst h
          exact Runs.rt rfl
        · rw [if_neg c19] at h
          refine Runs.brF (P := (I 67 4) = 0) (a := 153) (b := 157) (L := [.ref 67, .ref 59, .int x2]) (S := []) (z := (zS (up2 (up2 I 67 5 (I 67 14)) 67 2 0) J (some 59))) rfl c19 ?_
          refine Runs.sN 1 (c' := (158, [.ref 67, .ref 59, .int x2], [.int 0], (zS (up2 (up2 I 67 5 (I 67 14)) 67 2 0) J (some 59)))) rfl ?_
          subst h
          exact Runs.rt rfl
    · rw [if_neg c16] at h
      refine Runs.brF (P := (I 67 12) = 0) (a := 126) (b := 21) (L := [.ref 67, .ref 59, .int x2]) (S := []) (z := (zS I J (some 59))) rfl c16 ?_
      refine Runs.sN 2 (c' := (25, [.ref 67, .ref 59, .int x2], [.int (I 67 4)], (zS I J (some 59)))) rfl ?_
      by_cases c20 : (I 67 4) = 0
      · rw [if_pos c20] at h
        refine Runs.brT (P := (I 67 4) = 0) (a := 28) (b := 126) (L := [.ref 67, .ref 59, .int x2]) (S := []) (z := (zS I J (some 59))) rfl c20 ?_
        refine Runs.sN 1 (c' := (29, [.ref 67, .ref 59, .int x2], [.ref 67], (zS I J (some 59)))) rfl ?_
        obtain ⟨I1, c21, h⟩ := h
        refine Runs.cl (cm := 72) (as := [.ref 67]) (rest := []) (r1 := (none, (zS I1 J (some 59)))) rfl (Nat.le_of_ble_eq_true rfl) c21 ?_
        refine Runs.as (c' := (32, [.ref 67, .ref 59, .int x2], [], (zS I1 J (some 59)))) rfl ?_
        refine Runs.sN 2 (c' := (36, [.ref 67, .ref 59, .int x2], [.int (I1 67 7)], (zS I1 J (some 59)))) rfl ?_
        by_cases c22 : Int32.toInt (I1 67 7) < 0 ∨ 3 < Int32.toInt (I1 67 7)
        · rw [if_pos c22] at h
          refine Runs.to (c' := (112, [.ref 67, .ref 59, .int x2], [], (zS I1 J (some 59)))) (Runs.swd rfl c22) ?_
          refine Runs.sN 2 (c' := (114, [.ref 67, .ref 59, .int x2], [.ref 67, .ref 67], (zS I1 J (some 59)))) rfl ?_
          obtain ⟨v10, I11, c23, h⟩ := h
          refine Runs.cl (cm := 85) (as := [.ref 67]) (rest := [.ref 67]) (r1 := ((some (.int v10)), (zS I11 J (some 59)))) rfl (Nat.le_of_ble_eq_true rfl) c23 ?_
          refine Runs.as (c' := (117, [.ref 67, .ref 59, .int x2], [.int v10, .ref 67], (zS I11 J (some 59)))) rfl ?_
          refine Runs.sN 3 (c' := (7, [.ref 67, .ref 59, .int (x2 + 1)], [], (zS (up2 I11 67 4 v10) J (some 59)))) rfl ?_
          exact h
        · rw [if_neg c22] at h
          by_cases c24 : (I1 67 7) = 0
          · rw [if_pos c24] at h
            refine Runs.to (c' := (68, [.ref 67, .ref 59, .int x2], [], (zS I1 J (some 59)))) (Runs.swj rfl c24 rfl) ?_
            refine Runs.sN 2 (c' := (70, [.ref 67, .ref 59, .int x2], [.ref 67, .ref 67], (zS I1 J (some 59)))) rfl ?_
            obtain ⟨v2, I3, c25, h⟩ := h
            refine Runs.cl (cm := 80) (as := [.ref 67]) (rest := [.ref 67]) (r1 := ((some (.int v2)), (zS I3 J (some 59)))) rfl (Nat.le_of_ble_eq_true rfl) c25 ?_
            refine Runs.as (c' := (73, [.ref 67, .ref 59, .int x2], [.int v2, .ref 67], (zS I3 J (some 59)))) rfl ?_
            refine Runs.sN 4 (c' := (7, [.ref 67, .ref 59, .int (x2 + 1)], [], (zS (up2 I3 67 4 v2) J (some 59)))) rfl ?_
            exact h
          rw [if_neg c24] at h
          by_cases c26 : (I1 67 7) = 1
          · rw [if_pos c26] at h
            refine Runs.to (c' := (79, [.ref 67, .ref 59, .int x2], [], (zS I1 J (some 59)))) (Runs.swj rfl c26 rfl) ?_
            refine Runs.sN 2 (c' := (81, [.ref 67, .ref 59, .int x2], [.ref 67, .ref 67], (zS I1 J (some 59)))) rfl ?_
            obtain ⟨v4, I5, c27, h⟩ := h
            refine Runs.cl (cm := 81) (as := [.ref 67]) (rest := [.ref 67]) (r1 := ((some (.int v4)), (zS I5 J (some 59)))) rfl (Nat.le_of_ble_eq_true rfl) c27 ?_
            refine Runs.as (c' := (84, [.ref 67, .ref 59, .int x2], [.int v4, .ref 67], (zS I5 J (some 59)))) rfl ?_
            refine Runs.sN 4 (c' := (7, [.ref 67, .ref 59, .int (x2 + 1)], [], (zS (up2 I5 67 4 v4) J (some 59)))) rfl ?_
            exact h
          rw [if_neg c26] at h
          by_cases c28 : (I1 67 7) = 2
          · rw [if_pos c28] at h
            refine Runs.to (c' := (90, [.ref 67, .ref 59, .int x2], [], (zS I1 J (some 59)))) (Runs.swj rfl c28 rfl) ?_
            refine Runs.sN 2 (c' := (92, [.ref 67, .ref 59, .int x2], [.ref 67, .ref 67], (zS I1 J (some 59)))) rfl ?_
            obtain ⟨v6, I7, c29, h⟩ := h
            refine Runs.cl (cm := 82) (as := [.ref 67]) (rest := [.ref 67]) (r1 := ((some (.int v6)), (zS I7 J (some 59)))) rfl (Nat.le_of_ble_eq_true rfl) c29 ?_
            refine Runs.as (c' := (95, [.ref 67, .ref 59, .int x2], [.int v6, .ref 67], (zS I7 J (some 59)))) rfl ?_
            refine Runs.sN 4 (c' := (7, [.ref 67, .ref 59, .int (x2 + 1)], [], (zS (up2 I7 67 4 v6) J (some 59)))) rfl ?_
            exact h
          rw [if_neg c28] at h
          by_cases c30 : (I1 67 7) = 3
          · rw [if_pos c30] at h
            refine Runs.to (c' := (101, [.ref 67, .ref 59, .int x2], [], (zS I1 J (some 59)))) (Runs.swj rfl c30 rfl) ?_
            refine Runs.sN 2 (c' := (103, [.ref 67, .ref 59, .int x2], [.ref 67, .ref 67], (zS I1 J (some 59)))) rfl ?_
            obtain ⟨v8, I9, c31, h⟩ := h
            refine Runs.cl (cm := 84) (as := [.ref 67]) (rest := [.ref 67]) (r1 := ((some (.int v8)), (zS I9 J (some 59)))) rfl (Nat.le_of_ble_eq_true rfl) c31 ?_
            refine Runs.as (c' := (106, [.ref 67, .ref 59, .int x2], [.int v8, .ref 67], (zS I9 J (some 59)))) rfl ?_
            refine Runs.sN 4 (c' := (7, [.ref 67, .ref 59, .int (x2 + 1)], [], (zS (up2 I9 67 4 v8) J (some 59)))) rfl ?_
            exact h
          rw [if_neg c30] at h
          exact h.elim
      · rw [if_neg c20] at h
        refine Runs.brF (P := (I 67 4) = 0) (a := 28) (b := 126) (L := [.ref 67, .ref 59, .int x2]) (S := []) (z := (zS I J (some 59))) rfl c20 ?_
        refine Runs.sN 2 (c' := (130, [.ref 67, .ref 59, .int x2], [.int (I 67 4)], (zS I J (some 59)))) rfl ?_
        by_cases c32 : (I 67 4) = 0
        · rw [if_pos c32] at h
          refine Runs.brT (P := (I 67 4) = 0) (a := 141) (b := 133) (L := [.ref 67, .ref 59, .int x2]) (S := []) (z := (zS I J (some 59))) rfl c32 ?_
          refine Runs.sN 5 (c' := (150, [.ref 67, .ref 59, .int x2], [.int (I 67 4)], (zS (up2 I 67 2 0) J (some 59)))) rfl ?_
          by_cases c33 : (I 67 4) = 0
          · rw [if_pos c33] at h
            refine Runs.brT (P := (I 67 4) = 0) (a := 153) (b := 157) (L := [.ref 67, .ref 59, .int x2]) (S := []) (z := (zS (up2 I 67 2 0) J (some 59))) rfl c33 ?_
            refine Runs.sN 2 (c' := (158, [.ref 67, .ref 59, .int x2], [.int 1], (zS (up2 I 67 2 0) J (some 59)))) rfl ?_
            subst h
            exact Runs.rt rfl
          · rw [if_neg c33] at h
            refine Runs.brF (P := (I 67 4) = 0) (a := 153) (b := 157) (L := [.ref 67, .ref 59, .int x2]) (S := []) (z := (zS (up2 I 67 2 0) J (some 59))) rfl c33 ?_
            refine Runs.sN 1 (c' := (158, [.ref 67, .ref 59, .int x2], [.int 0], (zS (up2 I 67 2 0) J (some 59)))) rfl ?_
            subst h
            exact Runs.rt rfl
        · rw [if_neg c32] at h
          refine Runs.brF (P := (I 67 4) = 0) (a := 141) (b := 133) (L := [.ref 67, .ref 59, .int x2]) (S := []) (z := (zS I J (some 59))) rfl c32 ?_
          refine Runs.sN 9 (c' := (150, [.ref 67, .ref 59, .int x2], [.int (I 67 4)], (zS (up2 (up2 I 67 5 (I 67 14)) 67 2 0) J (some 59)))) rfl ?_
          by_cases c34 : (I 67 4) = 0
          · rw [if_pos c34] at h
            refine Runs.brT (P := (I 67 4) = 0) (a := 153) (b := 157) (L := [.ref 67, .ref 59, .int x2]) (S := []) (z := (zS (up2 (up2 I 67 5 (I 67 14)) 67 2 0) J (some 59))) rfl c34 ?_
            refine Runs.sN 2 (c' := (158, [.ref 67, .ref 59, .int x2], [.int 1], (zS (up2 (up2 I 67 5 (I 67 14)) 67 2 0) J (some 59)))) rfl ?_
            subst h
            exact Runs.rt rfl
          · rw [if_neg c34] at h
            refine Runs.brF (P := (I 67 4) = 0) (a := 153) (b := 157) (L := [.ref 67, .ref 59, .int x2]) (S := []) (z := (zS (up2 (up2 I 67 5 (I 67 14)) 67 2 0) J (some 59))) rfl c34 ?_
            refine Runs.sN 1 (c' := (158, [.ref 67, .ref 59, .int x2], [.int 0], (zS (up2 (up2 I 67 5 (I 67 14)) 67 2 0) J (some 59)))) rfl ?_
            subst h
            exact Runs.rt rfl
-- X11_grammar t59
theorem sg_128t59 {L d : Nat} {xs : Nat → Int32} (I : Nat → Nat → Int32) (J : Nat → Nat → Int64) (tg : Option Nat) {r : Option Value × SS} (h : ((if (I 18 0) < 4 then ((I 18 0) = 3 ∧ ∃ (v3 : Int32) (I4 : Nat → Nat → Int32), Runs (GW L xs) d 71 (0, [.ref 67, .ref 59, vU], [], (zS I J tg)) ((some (.int v3)), (zS I4 J (some 59))) ∧ (if v3 = 0 then (r = (some (.int (-1)), (zS I4 J (some 59)))) else (r = (some (.int (((I4 18 0) + 1) - 1)), (zS (up2 I4 18 0 ((I4 18 0) + 1)) J (some 59)))))) else (r = (some (.int (-1)), (zS I J tg)))))) : Runs (GW L xs) (d + 1) 128 (0, [.ref 0], [], (zS I J tg)) r := by
  refine Runs.sN 4 (c' := (8, [.ref 0], [.int 4, .int (I 18 0)], (zS I J tg))) rfl ?_
  by_cases c5 : (I 18 0) < 4
  · rw [if_pos c5] at h
    refine Runs.brT (P := (I 18 0) < 4) (a := 13) (b := 11) (L := [.ref 0]) (S := []) (z := (zS I J tg)) rfl c5 ?_
    refine Runs.sN 7 (c' := (28, [.ref 0], [.int (I 18 0), .ref 46, .ref 67], (zS I J tg))) rfl ?_
    obtain ⟨c6, h⟩ := h
    refine Runs.to (c' := (29, [.ref 0], [.ref 59, .ref 67], (zS I J tg))) (by rw [c6]; rfl) ?_
    obtain ⟨v3, I4, c7, h⟩ := h
    refine Runs.cl (cm := 71) (as := [.ref 67, .ref 59]) (rest := []) (r1 := ((some (.int v3)), (zS I4 J (some 59)))) rfl (Nat.le_of_ble_eq_true rfl) c7 ?_
    refine Runs.as (c' := (32, [.ref 0], [.int v3], (zS I4 J (some 59)))) rfl ?_
    by_cases c8 : v3 = 0
    · rw [if_pos c8] at h
      refine Runs.brT (P := v3 = 0) (a := 35) (b := 37) (L := [.ref 0]) (S := []) (z := (zS I4 J (some 59))) rfl c8 ?_
      refine Runs.sN 1 (c' := (36, [.ref 0], [.int (-1)], (zS I4 J (some 59)))) rfl ?_
      subst h
      exact Runs.rt rfl
    · rw [if_neg c8] at h
      refine Runs.brF (P := v3 = 0) (a := 35) (b := 37) (L := [.ref 0]) (S := []) (z := (zS I4 J (some 59))) rfl c8 ?_
      refine Runs.sN 12 (c' := (59, [.ref 0], [.int (((I4 18 0) + 1) - 1)], (zS (up2 I4 18 0 ((I4 18 0) + 1)) J (some 59)))) rfl ?_
      subst h
      exact Runs.rt rfl
  · rw [if_neg c5] at h
    refine Runs.brF (P := (I 18 0) < 4) (a := 13) (b := 11) (L := [.ref 0]) (S := []) (z := (zS I J tg)) rfl c5 ?_
    refine Runs.sN 1 (c' := (12, [.ref 0], [.int (-1)], (zS I J tg))) rfl ?_
    subst h
    exact Runs.rt rfl
-- X12_copy i
theorem sg_176i {L d : Nat} {xs : Nat → Int32} (I : Nat → Nat → Int32) (J : Nat → Nat → Int64) (tg : Option Nat) {r : Option Value × SS} (h : (Runs (GW L xs) d 176 (2, [.ref 94, .ref 95, .int 0], [], (zS I J tg)) r)) : Runs (GW L xs) d 176 (0, [.ref 94, .ref 95, vU], [], (zS I J tg)) r := by
  refine Runs.sN 2 (c' := (2, [.ref 94, .ref 95, .int 0], [], (zS I J tg))) rfl ?_
  exact h
theorem sg_176i_2 {L d : Nat} {xs : Nat → Int32} (I : Nat → Nat → Int32) (J : Nat → Nat → Int64) (tg : Option Nat) (x2 : Int32) {r : Option Value × SS} (h : ((if 1200 ≤ x2 then (r = (none, (zS I J tg))) else (¬ (x2 < 0 ∨ 1200 ≤ (x2).toNatClampNeg) ∧ ¬ (x2 < 0 ∨ 1200 ≤ (x2).toNatClampNeg) ∧ Runs (GW L xs) d 176 (2, [.ref 94, .ref 95, .int (x2 + 1)], [], (zS (up2 I 95 ((x2).toNatClampNeg) (I 94 ((x2).toNatClampNeg))) J tg)) r)))) : Runs (GW L xs) d 176 (2, [.ref 94, .ref 95, .int x2], [], (zS I J tg)) r := by
  refine Runs.sN 2 (c' := (6, [.ref 94, .ref 95, .int x2], [.int 1200, .int x2], (zS I J tg))) rfl ?_
  by_cases c1 : 1200 ≤ x2
  · rw [if_pos c1] at h
    refine Runs.brT (P := 1200 ≤ x2) (a := 21) (b := 9) (L := [.ref 94, .ref 95, .int x2]) (S := []) (z := (zS I J tg)) rfl c1 ?_
    subst h
    exact Runs.rt rfl
  · rw [if_neg c1] at h
    refine Runs.brF (P := 1200 ≤ x2) (a := 21) (b := 9) (L := [.ref 94, .ref 95, .int x2]) (S := []) (z := (zS I J tg)) rfl c1 ?_
    refine Runs.sN 4 (c' := (13, [.ref 94, .ref 95, .int x2], [.int x2, .ref 94, .int x2, .ref 95], (zS I J tg))) rfl ?_
    obtain ⟨c2, h⟩ := h
    refine Runs.to (c' := (14, [.ref 94, .ref 95, .int x2], [.int (I 94 ((x2).toNatClampNeg)), .int x2, .ref 95], (zS I J tg))) (Runs.ild rfl (show (94 : Nat) < 114 by decide) rfl c2) ?_
    obtain ⟨c3, h⟩ := h
    refine Runs.to (c' := (15, [.ref 94, .ref 95, .int x2], [], (zS (up2 I 95 ((x2).toNatClampNeg) (I 94 ((x2).toNatClampNeg))) J tg))) (Runs.ist rfl (show (95 : Nat) < 114 by decide) rfl c3) ?_
    refine Runs.sN 2 (c' := (2, [.ref 94, .ref 95, .int (x2 + 1)], [], (zS (up2 I 95 ((x2).toNatClampNeg) (I 94 ((x2).toNatClampNeg))) J tg))) rfl ?_
    exact h
-- X12_copy b
theorem sg_176b {L d : Nat} {xs : Nat → Int32} (I : Nat → Nat → Int32) (J : Nat → Nat → Int64) (tg : Option Nat) {r : Option Value × SS} (h : (Runs (GW L xs) d 176 (2, [.ref 95, .ref 94, .int 0], [], (zS I J tg)) r)) : Runs (GW L xs) d 176 (0, [.ref 95, .ref 94, vU], [], (zS I J tg)) r := by
  refine Runs.sN 2 (c' := (2, [.ref 95, .ref 94, .int 0], [], (zS I J tg))) rfl ?_
  exact h
theorem sg_176b_2 {L d : Nat} {xs : Nat → Int32} (I : Nat → Nat → Int32) (J : Nat → Nat → Int64) (tg : Option Nat) (x2 : Int32) {r : Option Value × SS} (h : ((if 1200 ≤ x2 then (r = (none, (zS I J tg))) else (¬ (x2 < 0 ∨ 1200 ≤ (x2).toNatClampNeg) ∧ ¬ (x2 < 0 ∨ 1200 ≤ (x2).toNatClampNeg) ∧ Runs (GW L xs) d 176 (2, [.ref 95, .ref 94, .int (x2 + 1)], [], (zS (up2 I 94 ((x2).toNatClampNeg) (I 95 ((x2).toNatClampNeg))) J tg)) r)))) : Runs (GW L xs) d 176 (2, [.ref 95, .ref 94, .int x2], [], (zS I J tg)) r := by
  refine Runs.sN 2 (c' := (6, [.ref 95, .ref 94, .int x2], [.int 1200, .int x2], (zS I J tg))) rfl ?_
  by_cases c1 : 1200 ≤ x2
  · rw [if_pos c1] at h
    refine Runs.brT (P := 1200 ≤ x2) (a := 21) (b := 9) (L := [.ref 95, .ref 94, .int x2]) (S := []) (z := (zS I J tg)) rfl c1 ?_
    subst h
    exact Runs.rt rfl
  · rw [if_neg c1] at h
    refine Runs.brF (P := 1200 ≤ x2) (a := 21) (b := 9) (L := [.ref 95, .ref 94, .int x2]) (S := []) (z := (zS I J tg)) rfl c1 ?_
    refine Runs.sN 4 (c' := (13, [.ref 95, .ref 94, .int x2], [.int x2, .ref 95, .int x2, .ref 94], (zS I J tg))) rfl ?_
    obtain ⟨c2, h⟩ := h
    refine Runs.to (c' := (14, [.ref 95, .ref 94, .int x2], [.int (I 95 ((x2).toNatClampNeg)), .int x2, .ref 94], (zS I J tg))) (Runs.ild rfl (show (95 : Nat) < 114 by decide) rfl c2) ?_
    obtain ⟨c3, h⟩ := h
    refine Runs.to (c' := (15, [.ref 95, .ref 94, .int x2], [], (zS (up2 I 94 ((x2).toNatClampNeg) (I 95 ((x2).toNatClampNeg))) J tg))) (Runs.ist rfl (show (94 : Nat) < 114 by decide) rfl c3) ?_
    refine Runs.sN 2 (c' := (2, [.ref 95, .ref 94, .int (x2 + 1)], [], (zS (up2 I 94 ((x2).toNatClampNeg) (I 95 ((x2).toNatClampNeg))) J tg))) rfl ?_
    exact h
