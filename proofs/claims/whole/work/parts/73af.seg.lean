-- X8_startOne t55
theorem sg_82t55 {L d : Nat} {xs : Nat → Int32} (I : Nat → Nat → Int32) (J : Nat → Nat → Int64) (tg : Option Nat) {r : Option Value × SS} (h : ((if (I 67 12) = 2 then ((if (I 67 13) ≤ 9999 then (∃ (I30 : Nat → Nat → Int32) (J31 : Nat → Nat → Int64) (tg32 : Option Nat), Runs (GW L xs) d 25 (0, [.ref 55, .int (I 67 13)], [], (zS I J (some 55))) (none, (zS I30 J31 tg32)) ∧ Runs (GW L xs) (d + 1) 82 (84, [.ref 67], [], (zS I30 J31 tg32)) r) else (r = (some (.int 2), (zS I J (some 55)))))) else ((if (I 67 12) = 3 then ((if (I 67 13) < 8 then (∃ (I33 : Nat → Nat → Int32) (J34 : Nat → Nat → Int64) (tg35 : Option Nat), Runs (GW L xs) d 25 (0, [.ref 55, .int (10000 + (I 67 13))], [], (zS I J (some 55))) (none, (zS I33 J34 tg35)) ∧ Runs (GW L xs) (d + 1) 82 (84, [.ref 67], [], (zS I33 J34 tg35)) r) else ((if (I 67 8) = 2 then (∃ (I36 : Nat → Nat → Int32) (J37 : Nat → Nat → Int64) (tg38 : Option Nat), Runs (GW L xs) d 25 (0, [.ref 55, .int (10000 + (I 67 13))], [], (zS I J (some 55))) (none, (zS I36 J37 tg38)) ∧ Runs (GW L xs) (d + 1) 82 (84, [.ref 67], [], (zS I36 J37 tg38)) r) else (r = (some (.int 5), (zS I J (some 55)))))))) else (∃ (v39 : Int32) (I40 : Nat → Nat → Int32) (J41 : Nat → Nat → Int64) (tg42 : Option Nat), Runs (GW L xs) d 83 (0, [.ref 67], [], (zS I J (some 55))) ((some (.int v39)), (zS I40 J41 tg42)) ∧ r = (some (.int v39), (zS I40 J41 tg42)))))))) : Runs (GW L xs) (d + 1) 82 (0, [.ref 67], [], (zS I J (some 55))) r := by
  refine Runs.sN 3 (c' := (5, [.ref 67], [.int 2, .int (I 67 12)], (zS I J (some 55)))) rfl ?_
  by_cases c43 : (I 67 12) = 2
  · rw [if_pos c43] at h
    refine Runs.brT (P := (I 67 12) = 2) (a := 8) (b := 34) (L := [.ref 67]) (S := []) (z := (zS I J (some 55))) rfl c43 ?_
    refine Runs.sN 3 (c' := (15, [.ref 67], [.int 9999, .int (I 67 13)], (zS I J (some 55)))) rfl ?_
    by_cases c44 : (I 67 13) ≤ 9999
    · rw [if_pos c44] at h
      refine Runs.brT (P := (I 67 13) ≤ 9999) (a := 20) (b := 18) (L := [.ref 67]) (S := []) (z := (zS I J (some 55))) rfl c44 ?_
      refine Runs.sN 4 (c' := (28, [.ref 67], [.int (I 67 13), .ref 55], (zS I J (some 55)))) rfl ?_
      obtain ⟨I30, J31, tg32, c45, h⟩ := h
      refine Runs.cl (cm := 25) (as := [.ref 55, .int (I 67 13)]) (rest := []) (r1 := (none, (zS I30 J31 tg32))) rfl (Nat.le_of_ble_eq_true rfl) c45 ?_
      refine Runs.as (c' := (31, [.ref 67], [], (zS I30 J31 tg32))) rfl ?_
      refine Runs.sN 1 (c' := (84, [.ref 67], [], (zS I30 J31 tg32))) rfl ?_
      exact h
    · rw [if_neg c44] at h
      refine Runs.brF (P := (I 67 13) ≤ 9999) (a := 20) (b := 18) (L := [.ref 67]) (S := []) (z := (zS I J (some 55))) rfl c44 ?_
      refine Runs.sN 1 (c' := (19, [.ref 67], [.int 2], (zS I J (some 55)))) rfl ?_
      subst h
      exact Runs.rt rfl
  · rw [if_neg c43] at h
    refine Runs.brF (P := (I 67 12) = 2) (a := 8) (b := 34) (L := [.ref 67]) (S := []) (z := (zS I J (some 55))) rfl c43 ?_
    refine Runs.sN 3 (c' := (39, [.ref 67], [.int 3, .int (I 67 12)], (zS I J (some 55)))) rfl ?_
    by_cases c46 : (I 67 12) = 3
    · rw [if_pos c46] at h
      refine Runs.brT (P := (I 67 12) = 3) (a := 42) (b := 79) (L := [.ref 67]) (S := []) (z := (zS I J (some 55))) rfl c46 ?_
      refine Runs.sN 3 (c' := (48, [.ref 67], [.int 8, .int (I 67 13)], (zS I J (some 55)))) rfl ?_
      by_cases c47 : (I 67 13) < 8
      · rw [if_pos c47] at h
        refine Runs.brT (P := (I 67 13) < 8) (a := 61) (b := 51) (L := [.ref 67]) (S := []) (z := (zS I J (some 55))) rfl c47 ?_
        refine Runs.sN 6 (c' := (73, [.ref 67], [.int (10000 + (I 67 13)), .ref 55], (zS I J (some 55)))) rfl ?_
        obtain ⟨I33, J34, tg35, c48, h⟩ := h
        refine Runs.cl (cm := 25) (as := [.ref 55, .int (10000 + (I 67 13))]) (rest := []) (r1 := (none, (zS I33 J34 tg35))) rfl (Nat.le_of_ble_eq_true rfl) c48 ?_
        refine Runs.as (c' := (76, [.ref 67], [], (zS I33 J34 tg35))) rfl ?_
        refine Runs.sN 1 (c' := (84, [.ref 67], [], (zS I33 J34 tg35))) rfl ?_
        exact h
      · rw [if_neg c47] at h
        refine Runs.brF (P := (I 67 13) < 8) (a := 61) (b := 51) (L := [.ref 67]) (S := []) (z := (zS I J (some 55))) rfl c47 ?_
        refine Runs.sN 3 (c' := (56, [.ref 67], [.int 2, .int (I 67 8)], (zS I J (some 55)))) rfl ?_
        by_cases c49 : (I 67 8) = 2
        · rw [if_pos c49] at h
          refine Runs.brT (P := (I 67 8) = 2) (a := 61) (b := 59) (L := [.ref 67]) (S := []) (z := (zS I J (some 55))) rfl c49 ?_
          refine Runs.sN 6 (c' := (73, [.ref 67], [.int (10000 + (I 67 13)), .ref 55], (zS I J (some 55)))) rfl ?_
          obtain ⟨I36, J37, tg38, c50, h⟩ := h
          refine Runs.cl (cm := 25) (as := [.ref 55, .int (10000 + (I 67 13))]) (rest := []) (r1 := (none, (zS I36 J37 tg38))) rfl (Nat.le_of_ble_eq_true rfl) c50 ?_
          refine Runs.as (c' := (76, [.ref 67], [], (zS I36 J37 tg38))) rfl ?_
          refine Runs.sN 1 (c' := (84, [.ref 67], [], (zS I36 J37 tg38))) rfl ?_
          exact h
        · rw [if_neg c49] at h
          refine Runs.brF (P := (I 67 8) = 2) (a := 61) (b := 59) (L := [.ref 67]) (S := []) (z := (zS I J (some 55))) rfl c49 ?_
          refine Runs.sN 1 (c' := (60, [.ref 67], [.int 5], (zS I J (some 55)))) rfl ?_
          subst h
          exact Runs.rt rfl
    · rw [if_neg c46] at h
      refine Runs.brF (P := (I 67 12) = 3) (a := 42) (b := 79) (L := [.ref 67]) (S := []) (z := (zS I J (some 55))) rfl c46 ?_
      refine Runs.sN 1 (c' := (80, [.ref 67], [.ref 67], (zS I J (some 55)))) rfl ?_
      obtain ⟨v39, I40, J41, tg42, c51, h⟩ := h
      refine Runs.cl (cm := 83) (as := [.ref 67]) (rest := []) (r1 := ((some (.int v39)), (zS I40 J41 tg42))) rfl (Nat.le_of_ble_eq_true rfl) c51 ?_
      refine Runs.as (c' := (83, [.ref 67], [.int v39], (zS I40 J41 tg42))) rfl ?_
      subst h
      exact Runs.rt rfl
theorem sg_82t55_84 {L d : Nat} {xs : Nat → Int32} (I : Nat → Nat → Int32) (J : Nat → Nat → Int64) (tg : Option Nat) {r : Option Value × SS} (h : ((if (I 67 11) ≤ 0 then (r = (some (.int 0), (zS (up2 I 67 7 3) J (some 55)))) else (∃ (I1 : Nat → Nat → Int32) (J2 : Nat → Nat → Int64) (tg3 : Option Nat), Runs (GW L xs) d 25 (0, [.ref 55, .int 20021], [], (zS I J (some 55))) (none, (zS I1 J2 tg3)) ∧ Runs (GW L xs) (d + 1) 82 (84, [.ref 67], [], (zS (up2 I1 67 11 ((I1 67 11) - 1)) J2 tg3)) r)))) : Runs (GW L xs) (d + 1) 82 (84, [.ref 67], [], (zS I J (some 55))) r := by
  refine Runs.sN 2 (c' := (88, [.ref 67], [.int (I 67 11)], (zS I J (some 55)))) rfl ?_
  by_cases c4 : (I 67 11) ≤ 0
  · rw [if_pos c4] at h
    refine Runs.brT (P := (I 67 11) ≤ 0) (a := 114) (b := 91) (L := [.ref 67]) (S := []) (z := (zS I J (some 55))) rfl c4 ?_
    refine Runs.sN 4 (c' := (120, [.ref 67], [.int 0], (zS (up2 I 67 7 3) J (some 55)))) rfl ?_
    subst h
    exact Runs.rt rfl
  · rw [if_neg c4] at h
    refine Runs.brF (P := (I 67 11) ≤ 0) (a := 114) (b := 91) (L := [.ref 67]) (S := []) (z := (zS I J (some 55))) rfl c4 ?_
    refine Runs.sN 3 (c' := (98, [.ref 67], [.int 20021, .ref 55], (zS I J (some 55)))) rfl ?_
    obtain ⟨I1, J2, tg3, c5, h⟩ := h
    refine Runs.cl (cm := 25) (as := [.ref 55, .int 20021]) (rest := []) (r1 := (none, (zS I1 J2 tg3))) rfl (Nat.le_of_ble_eq_true rfl) c5 ?_
    refine Runs.as (c' := (101, [.ref 67], [], (zS I1 J2 tg3))) rfl ?_
    refine Runs.sN 7 (c' := (84, [.ref 67], [], (zS (up2 I1 67 11 ((I1 67 11) - 1)) J2 tg3))) rfl ?_
    exact h
-- X8_startOne t59
theorem sg_82t59 {L d : Nat} {xs : Nat → Int32} (I : Nat → Nat → Int32) (J : Nat → Nat → Int64) (tg : Option Nat) {r : Option Value × SS} (h : ((if (I 67 12) = 2 then ((if (I 67 13) ≤ 9999 then (∃ (I30 : Nat → Nat → Int32) (J31 : Nat → Nat → Int64) (tg32 : Option Nat), Runs (GW L xs) d 25 (0, [.ref 59, .int (I 67 13)], [], (zS I J (some 59))) (none, (zS I30 J31 tg32)) ∧ Runs (GW L xs) (d + 1) 82 (84, [.ref 67], [], (zS I30 J31 tg32)) r) else (r = (some (.int 2), (zS I J (some 59)))))) else ((if (I 67 12) = 3 then ((if (I 67 13) < 8 then (∃ (I33 : Nat → Nat → Int32) (J34 : Nat → Nat → Int64) (tg35 : Option Nat), Runs (GW L xs) d 25 (0, [.ref 59, .int (10000 + (I 67 13))], [], (zS I J (some 59))) (none, (zS I33 J34 tg35)) ∧ Runs (GW L xs) (d + 1) 82 (84, [.ref 67], [], (zS I33 J34 tg35)) r) else ((if (I 67 8) = 2 then (∃ (I36 : Nat → Nat → Int32) (J37 : Nat → Nat → Int64) (tg38 : Option Nat), Runs (GW L xs) d 25 (0, [.ref 59, .int (10000 + (I 67 13))], [], (zS I J (some 59))) (none, (zS I36 J37 tg38)) ∧ Runs (GW L xs) (d + 1) 82 (84, [.ref 67], [], (zS I36 J37 tg38)) r) else (r = (some (.int 5), (zS I J (some 59)))))))) else (∃ (v39 : Int32) (I40 : Nat → Nat → Int32) (J41 : Nat → Nat → Int64) (tg42 : Option Nat), Runs (GW L xs) d 83 (0, [.ref 67], [], (zS I J (some 59))) ((some (.int v39)), (zS I40 J41 tg42)) ∧ r = (some (.int v39), (zS I40 J41 tg42)))))))) : Runs (GW L xs) (d + 1) 82 (0, [.ref 67], [], (zS I J (some 59))) r := by
  refine Runs.sN 3 (c' := (5, [.ref 67], [.int 2, .int (I 67 12)], (zS I J (some 59)))) rfl ?_
  by_cases c43 : (I 67 12) = 2
  · rw [if_pos c43] at h
    refine Runs.brT (P := (I 67 12) = 2) (a := 8) (b := 34) (L := [.ref 67]) (S := []) (z := (zS I J (some 59))) rfl c43 ?_
    refine Runs.sN 3 (c' := (15, [.ref 67], [.int 9999, .int (I 67 13)], (zS I J (some 59)))) rfl ?_
    by_cases c44 : (I 67 13) ≤ 9999
    · rw [if_pos c44] at h
      refine Runs.brT (P := (I 67 13) ≤ 9999) (a := 20) (b := 18) (L := [.ref 67]) (S := []) (z := (zS I J (some 59))) rfl c44 ?_
      refine Runs.sN 4 (c' := (28, [.ref 67], [.int (I 67 13), .ref 59], (zS I J (some 59)))) rfl ?_
      obtain ⟨I30, J31, tg32, c45, h⟩ := h
      refine Runs.cl (cm := 25) (as := [.ref 59, .int (I 67 13)]) (rest := []) (r1 := (none, (zS I30 J31 tg32))) rfl (Nat.le_of_ble_eq_true rfl) c45 ?_
      refine Runs.as (c' := (31, [.ref 67], [], (zS I30 J31 tg32))) rfl ?_
      refine Runs.sN 1 (c' := (84, [.ref 67], [], (zS I30 J31 tg32))) rfl ?_
      exact h
    · rw [if_neg c44] at h
      refine Runs.brF (P := (I 67 13) ≤ 9999) (a := 20) (b := 18) (L := [.ref 67]) (S := []) (z := (zS I J (some 59))) rfl c44 ?_
      refine Runs.sN 1 (c' := (19, [.ref 67], [.int 2], (zS I J (some 59)))) rfl ?_
      subst h
      exact Runs.rt rfl
  · rw [if_neg c43] at h
    refine Runs.brF (P := (I 67 12) = 2) (a := 8) (b := 34) (L := [.ref 67]) (S := []) (z := (zS I J (some 59))) rfl c43 ?_
    refine Runs.sN 3 (c' := (39, [.ref 67], [.int 3, .int (I 67 12)], (zS I J (some 59)))) rfl ?_
    by_cases c46 : (I 67 12) = 3
    · rw [if_pos c46] at h
      refine Runs.brT (P := (I 67 12) = 3) (a := 42) (b := 79) (L := [.ref 67]) (S := []) (z := (zS I J (some 59))) rfl c46 ?_
      refine Runs.sN 3 (c' := (48, [.ref 67], [.int 8, .int (I 67 13)], (zS I J (some 59)))) rfl ?_
      by_cases c47 : (I 67 13) < 8
      · rw [if_pos c47] at h
        refine Runs.brT (P := (I 67 13) < 8) (a := 61) (b := 51) (L := [.ref 67]) (S := []) (z := (zS I J (some 59))) rfl c47 ?_
        refine Runs.sN 6 (c' := (73, [.ref 67], [.int (10000 + (I 67 13)), .ref 59], (zS I J (some 59)))) rfl ?_
        obtain ⟨I33, J34, tg35, c48, h⟩ := h
        refine Runs.cl (cm := 25) (as := [.ref 59, .int (10000 + (I 67 13))]) (rest := []) (r1 := (none, (zS I33 J34 tg35))) rfl (Nat.le_of_ble_eq_true rfl) c48 ?_
        refine Runs.as (c' := (76, [.ref 67], [], (zS I33 J34 tg35))) rfl ?_
        refine Runs.sN 1 (c' := (84, [.ref 67], [], (zS I33 J34 tg35))) rfl ?_
        exact h
      · rw [if_neg c47] at h
        refine Runs.brF (P := (I 67 13) < 8) (a := 61) (b := 51) (L := [.ref 67]) (S := []) (z := (zS I J (some 59))) rfl c47 ?_
        refine Runs.sN 3 (c' := (56, [.ref 67], [.int 2, .int (I 67 8)], (zS I J (some 59)))) rfl ?_
        by_cases c49 : (I 67 8) = 2
        · rw [if_pos c49] at h
          refine Runs.brT (P := (I 67 8) = 2) (a := 61) (b := 59) (L := [.ref 67]) (S := []) (z := (zS I J (some 59))) rfl c49 ?_
          refine Runs.sN 6 (c' := (73, [.ref 67], [.int (10000 + (I 67 13)), .ref 59], (zS I J (some 59)))) rfl ?_
          obtain ⟨I36, J37, tg38, c50, h⟩ := h
          refine Runs.cl (cm := 25) (as := [.ref 59, .int (10000 + (I 67 13))]) (rest := []) (r1 := (none, (zS I36 J37 tg38))) rfl (Nat.le_of_ble_eq_true rfl) c50 ?_
          refine Runs.as (c' := (76, [.ref 67], [], (zS I36 J37 tg38))) rfl ?_
          refine Runs.sN 1 (c' := (84, [.ref 67], [], (zS I36 J37 tg38))) rfl ?_
          exact h
        · rw [if_neg c49] at h
          refine Runs.brF (P := (I 67 8) = 2) (a := 61) (b := 59) (L := [.ref 67]) (S := []) (z := (zS I J (some 59))) rfl c49 ?_
          refine Runs.sN 1 (c' := (60, [.ref 67], [.int 5], (zS I J (some 59)))) rfl ?_
          subst h
          exact Runs.rt rfl
    · rw [if_neg c46] at h
      refine Runs.brF (P := (I 67 12) = 3) (a := 42) (b := 79) (L := [.ref 67]) (S := []) (z := (zS I J (some 59))) rfl c46 ?_
      refine Runs.sN 1 (c' := (80, [.ref 67], [.ref 67], (zS I J (some 59)))) rfl ?_
      obtain ⟨v39, I40, J41, tg42, c51, h⟩ := h
      refine Runs.cl (cm := 83) (as := [.ref 67]) (rest := []) (r1 := ((some (.int v39)), (zS I40 J41 tg42))) rfl (Nat.le_of_ble_eq_true rfl) c51 ?_
      refine Runs.as (c' := (83, [.ref 67], [.int v39], (zS I40 J41 tg42))) rfl ?_
      subst h
      exact Runs.rt rfl
theorem sg_82t59_84 {L d : Nat} {xs : Nat → Int32} (I : Nat → Nat → Int32) (J : Nat → Nat → Int64) (tg : Option Nat) {r : Option Value × SS} (h : ((if (I 67 11) ≤ 0 then (r = (some (.int 0), (zS (up2 I 67 7 3) J (some 59)))) else (∃ (I1 : Nat → Nat → Int32) (J2 : Nat → Nat → Int64) (tg3 : Option Nat), Runs (GW L xs) d 25 (0, [.ref 59, .int 20021], [], (zS I J (some 59))) (none, (zS I1 J2 tg3)) ∧ Runs (GW L xs) (d + 1) 82 (84, [.ref 67], [], (zS (up2 I1 67 11 ((I1 67 11) - 1)) J2 tg3)) r)))) : Runs (GW L xs) (d + 1) 82 (84, [.ref 67], [], (zS I J (some 59))) r := by
  refine Runs.sN 2 (c' := (88, [.ref 67], [.int (I 67 11)], (zS I J (some 59)))) rfl ?_
  by_cases c4 : (I 67 11) ≤ 0
  · rw [if_pos c4] at h
    refine Runs.brT (P := (I 67 11) ≤ 0) (a := 114) (b := 91) (L := [.ref 67]) (S := []) (z := (zS I J (some 59))) rfl c4 ?_
    refine Runs.sN 4 (c' := (120, [.ref 67], [.int 0], (zS (up2 I 67 7 3) J (some 59)))) rfl ?_
    subst h
    exact Runs.rt rfl
  · rw [if_neg c4] at h
    refine Runs.brF (P := (I 67 11) ≤ 0) (a := 114) (b := 91) (L := [.ref 67]) (S := []) (z := (zS I J (some 59))) rfl c4 ?_
    refine Runs.sN 3 (c' := (98, [.ref 67], [.int 20021, .ref 59], (zS I J (some 59)))) rfl ?_
    obtain ⟨I1, J2, tg3, c5, h⟩ := h
    refine Runs.cl (cm := 25) (as := [.ref 59, .int 20021]) (rest := []) (r1 := (none, (zS I1 J2 tg3))) rfl (Nat.le_of_ble_eq_true rfl) c5 ?_
    refine Runs.as (c' := (101, [.ref 67], [], (zS I1 J2 tg3))) rfl ?_
    refine Runs.sN 7 (c' := (84, [.ref 67], [], (zS (up2 I1 67 11 ((I1 67 11) - 1)) J2 tg3))) rfl ?_
    exact h
-- X8_startMinus 
theorem sg_83 {L d : Nat} {xs : Nat → Int32} (I : Nat → Nat → Int32) (J : Nat → Nat → Int64) (tg : Option Nat) {r : Option Value × SS} (h : ((if (I 67 12) = 16 then ((if ((I 67 10) + (I 67 11)) < 8 then (r = (some (.int 0), (zS (up2 (up2 I 67 11 ((I 67 11) + 1)) 67 7 2) J tg))) else (r = (some (.int 3), (zS I J tg))))) else (r = (some (.int 1), (zS I J tg)))))) : Runs (GW L xs) d 83 (0, [.ref 67], [], (zS I J tg)) r := by
  refine Runs.sN 3 (c' := (6, [.ref 67], [.int 16, .int (I 67 12)], (zS I J tg))) rfl ?_
  by_cases c1 : (I 67 12) = 16
  · rw [if_pos c1] at h
    refine Runs.brT (P := (I 67 12) = 16) (a := 11) (b := 9) (L := [.ref 67]) (S := []) (z := (zS I J tg)) rfl c1 ?_
    refine Runs.sN 6 (c' := (22, [.ref 67], [.int 8, .int ((I 67 10) + (I 67 11))], (zS I J tg))) rfl ?_
    by_cases c2 : ((I 67 10) + (I 67 11)) < 8
    · rw [if_pos c2] at h
      refine Runs.brT (P := ((I 67 10) + (I 67 11)) < 8) (a := 27) (b := 25) (L := [.ref 67]) (S := []) (z := (zS I J tg)) rfl c2 ?_
      refine Runs.sN 10 (c' := (43, [.ref 67], [.int 0], (zS (up2 (up2 I 67 11 ((I 67 11) + 1)) 67 7 2) J tg))) rfl ?_
      subst h
      exact Runs.rt rfl
    · rw [if_neg c2] at h
      refine Runs.brF (P := ((I 67 10) + (I 67 11)) < 8) (a := 27) (b := 25) (L := [.ref 67]) (S := []) (z := (zS I J tg)) rfl c2 ?_
      refine Runs.sN 1 (c' := (26, [.ref 67], [.int 3], (zS I J tg))) rfl ?_
      subst h
      exact Runs.rt rfl
  · rw [if_neg c1] at h
    refine Runs.brF (P := (I 67 12) = 16) (a := 11) (b := 9) (L := [.ref 67]) (S := []) (z := (zS I J tg)) rfl c1 ?_
    refine Runs.sN 1 (c' := (10, [.ref 67], [.int 1], (zS I J tg))) rfl ?_
    subst h
    exact Runs.rt rfl
-- X8_followOne 
theorem sg_84 {L d : Nat} {xs : Nat → Int32} (I : Nat → Nat → Int32) (J : Nat → Nat → Int64) (tg : Option Nat) {r : Option Value × SS} (h : ((if (I 67 12) < 15 then ((if (I 67 8) = 0 then ((if (I 67 12) < 9 then (r = (some (.int 1), (zS I J tg))) else ((if (I 67 12) ≤ 14 then (∃ (I26 : Nat → Nat → Int32) (J27 : Nat → Nat → Int64) (tg28 : Option Nat), Runs (GW L xs) d 86 (0, [.ref 67], [], (zS I J tg)) (none, (zS I26 J27 tg28)) ∧ r = (some (.int 0), (zS (up2 (up2 I26 67 8 1) 67 7 2) J27 tg28))) else (r = (some (.int 1), (zS I J tg))))))) else ((if (I 67 8) = 1 then (∃ (v29 : Int32) (I30 : Nat → Nat → Int32) (J31 : Nat → Nat → Int64) (tg32 : Option Nat), Runs (GW L xs) d 85 (0, [.ref 67], [], (zS I J tg)) ((some (.int v29)), (zS I30 J31 tg32)) ∧ r = (some (.int v29), (zS I30 J31 tg32))) else ((if (I 67 12) = 20 then (∃ (v33 : Int32) (I34 : Nat → Nat → Int32) (J35 : Nat → Nat → Int64) (tg36 : Option Nat), Runs (GW L xs) d 85 (0, [.ref 67], [], (zS I J tg)) ((some (.int v33)), (zS I34 J35 tg36)) ∧ r = (some (.int v33), (zS I34 J35 tg36))) else (r = (some (.int 1), (zS I J tg))))))))) else ((if 17 < (I 67 12) then ((if (I 67 8) = 0 then ((if (I 67 12) < 9 then (r = (some (.int 1), (zS I J tg))) else ((if (I 67 12) ≤ 14 then (∃ (I37 : Nat → Nat → Int32) (J38 : Nat → Nat → Int64) (tg39 : Option Nat), Runs (GW L xs) d 86 (0, [.ref 67], [], (zS I J tg)) (none, (zS I37 J38 tg39)) ∧ r = (some (.int 0), (zS (up2 (up2 I37 67 8 1) 67 7 2) J38 tg39))) else (r = (some (.int 1), (zS I J tg))))))) else ((if (I 67 8) = 1 then (∃ (v40 : Int32) (I41 : Nat → Nat → Int32) (J42 : Nat → Nat → Int64) (tg43 : Option Nat), Runs (GW L xs) d 85 (0, [.ref 67], [], (zS I J tg)) ((some (.int v40)), (zS I41 J42 tg43)) ∧ r = (some (.int v40), (zS I41 J42 tg43))) else ((if (I 67 12) = 20 then (∃ (v44 : Int32) (I45 : Nat → Nat → Int32) (J46 : Nat → Nat → Int64) (tg47 : Option Nat), Runs (GW L xs) d 85 (0, [.ref 67], [], (zS I J tg)) ((some (.int v44)), (zS I45 J46 tg47)) ∧ r = (some (.int v44), (zS I45 J46 tg47))) else (r = (some (.int 1), (zS I J tg))))))))) else (∃ (I48 : Nat → Nat → Int32) (J49 : Nat → Nat → Int64) (tg50 : Option Nat), Runs (GW L xs) d 86 (0, [.ref 67], [], (zS I J tg)) (none, (zS I48 J49 tg50)) ∧ r = (some (.int 0), (zS (up2 I48 67 7 2) J49 tg50)))))))) : Runs (GW L xs) (d + 1) 84 (0, [.ref 67], [], (zS I J tg)) r := by
  refine Runs.sN 3 (c' := (6, [.ref 67], [.int 15, .int (I 67 12)], (zS I J tg))) rfl ?_
  by_cases c51 : (I 67 12) < 15
  · rw [if_pos c51] at h
    refine Runs.brT (P := (I 67 12) < 15) (a := 29) (b := 9) (L := [.ref 67]) (S := []) (z := (zS I J tg)) rfl c51 ?_
    refine Runs.sN 2 (c' := (33, [.ref 67], [.int (I 67 8)], (zS I J tg))) rfl ?_
    by_cases c52 : (I 67 8) = 0
    · rw [if_pos c52] at h
      refine Runs.brT (P := (I 67 8) = 0) (a := 36) (b := 72) (L := [.ref 67]) (S := []) (z := (zS I J tg)) rfl c52 ?_
      refine Runs.sN 3 (c' := (42, [.ref 67], [.int 9, .int (I 67 12)], (zS I J tg))) rfl ?_
      by_cases c53 : (I 67 12) < 9
      · rw [if_pos c53] at h
        refine Runs.brT (P := (I 67 12) < 9) (a := 54) (b := 45) (L := [.ref 67]) (S := []) (z := (zS I J tg)) rfl c53 ?_
        refine Runs.sN 1 (c' := (55, [.ref 67], [.int 1], (zS I J tg))) rfl ?_
        subst h
        exact Runs.rt rfl
      · rw [if_neg c53] at h
        refine Runs.brF (P := (I 67 12) < 9) (a := 54) (b := 45) (L := [.ref 67]) (S := []) (z := (zS I J tg)) rfl c53 ?_
        refine Runs.sN 3 (c' := (51, [.ref 67], [.int 14, .int (I 67 12)], (zS I J tg))) rfl ?_
        by_cases c54 : (I 67 12) ≤ 14
        · rw [if_pos c54] at h
          refine Runs.brT (P := (I 67 12) ≤ 14) (a := 56) (b := 54) (L := [.ref 67]) (S := []) (z := (zS I J tg)) rfl c54 ?_
          refine Runs.sN 1 (c' := (57, [.ref 67], [.ref 67], (zS I J tg))) rfl ?_
          obtain ⟨I26, J27, tg28, c55, h⟩ := h
          refine Runs.cl (cm := 86) (as := [.ref 67]) (rest := []) (r1 := (none, (zS I26 J27 tg28))) rfl (Nat.le_of_ble_eq_true rfl) c55 ?_
          refine Runs.as (c' := (60, [.ref 67], [], (zS I26 J27 tg28))) rfl ?_
          refine Runs.sN 7 (c' := (71, [.ref 67], [.int 0], (zS (up2 (up2 I26 67 8 1) 67 7 2) J27 tg28))) rfl ?_
          subst h
          exact Runs.rt rfl
        · rw [if_neg c54] at h
          refine Runs.brF (P := (I 67 12) ≤ 14) (a := 56) (b := 54) (L := [.ref 67]) (S := []) (z := (zS I J tg)) rfl c54 ?_
          refine Runs.sN 1 (c' := (55, [.ref 67], [.int 1], (zS I J tg))) rfl ?_
          subst h
          exact Runs.rt rfl
    · rw [if_neg c52] at h
      refine Runs.brF (P := (I 67 8) = 0) (a := 36) (b := 72) (L := [.ref 67]) (S := []) (z := (zS I J tg)) rfl c52 ?_
      refine Runs.sN 3 (c' := (77, [.ref 67], [.int 1, .int (I 67 8)], (zS I J tg))) rfl ?_
      by_cases c56 : (I 67 8) = 1
      · rw [if_pos c56] at h
        refine Runs.brT (P := (I 67 8) = 1) (a := 89) (b := 80) (L := [.ref 67]) (S := []) (z := (zS I J tg)) rfl c56 ?_
        refine Runs.sN 1 (c' := (90, [.ref 67], [.ref 67], (zS I J tg))) rfl ?_
        obtain ⟨v29, I30, J31, tg32, c57, h⟩ := h
        refine Runs.cl (cm := 85) (as := [.ref 67]) (rest := []) (r1 := ((some (.int v29)), (zS I30 J31 tg32))) rfl (Nat.le_of_ble_eq_true rfl) c57 ?_
        refine Runs.as (c' := (93, [.ref 67], [.int v29], (zS I30 J31 tg32))) rfl ?_
        refine Runs.sN 1 (c' := (97, [.ref 67], [.int v29], (zS I30 J31 tg32))) rfl ?_
        subst h
        exact Runs.rt rfl
      · rw [if_neg c56] at h
        refine Runs.brF (P := (I 67 8) = 1) (a := 89) (b := 80) (L := [.ref 67]) (S := []) (z := (zS I J tg)) rfl c56 ?_
        refine Runs.sN 3 (c' := (86, [.ref 67], [.int 20, .int (I 67 12)], (zS I J tg))) rfl ?_
        by_cases c58 : (I 67 12) = 20
        · rw [if_pos c58] at h
          refine Runs.brT (P := (I 67 12) = 20) (a := 89) (b := 96) (L := [.ref 67]) (S := []) (z := (zS I J tg)) rfl c58 ?_
          refine Runs.sN 1 (c' := (90, [.ref 67], [.ref 67], (zS I J tg))) rfl ?_
          obtain ⟨v33, I34, J35, tg36, c59, h⟩ := h
          refine Runs.cl (cm := 85) (as := [.ref 67]) (rest := []) (r1 := ((some (.int v33)), (zS I34 J35 tg36))) rfl (Nat.le_of_ble_eq_true rfl) c59 ?_
          refine Runs.as (c' := (93, [.ref 67], [.int v33], (zS I34 J35 tg36))) rfl ?_
          refine Runs.sN 1 (c' := (97, [.ref 67], [.int v33], (zS I34 J35 tg36))) rfl ?_
          subst h
          exact Runs.rt rfl
        · rw [if_neg c58] at h
          refine Runs.brF (P := (I 67 12) = 20) (a := 89) (b := 96) (L := [.ref 67]) (S := []) (z := (zS I J tg)) rfl c58 ?_
          refine Runs.sN 1 (c' := (97, [.ref 67], [.int 1], (zS I J tg))) rfl ?_
          subst h
          exact Runs.rt rfl
  · rw [if_neg c51] at h
    refine Runs.brF (P := (I 67 12) < 15) (a := 29) (b := 9) (L := [.ref 67]) (S := []) (z := (zS I J tg)) rfl c51 ?_
    refine Runs.sN 3 (c' := (15, [.ref 67], [.int 17, .int (I 67 12)], (zS I J tg))) rfl ?_
    by_cases c60 : 17 < (I 67 12)
    · rw [if_pos c60] at h
      refine Runs.brT (P := 17 < (I 67 12)) (a := 29) (b := 18) (L := [.ref 67]) (S := []) (z := (zS I J tg)) rfl c60 ?_
      refine Runs.sN 2 (c' := (33, [.ref 67], [.int (I 67 8)], (zS I J tg))) rfl ?_
      by_cases c61 : (I 67 8) = 0
      · rw [if_pos c61] at h
        refine Runs.brT (P := (I 67 8) = 0) (a := 36) (b := 72) (L := [.ref 67]) (S := []) (z := (zS I J tg)) rfl c61 ?_
        refine Runs.sN 3 (c' := (42, [.ref 67], [.int 9, .int (I 67 12)], (zS I J tg))) rfl ?_
        by_cases c62 : (I 67 12) < 9
        · rw [if_pos c62] at h
          refine Runs.brT (P := (I 67 12) < 9) (a := 54) (b := 45) (L := [.ref 67]) (S := []) (z := (zS I J tg)) rfl c62 ?_
          refine Runs.sN 1 (c' := (55, [.ref 67], [.int 1], (zS I J tg))) rfl ?_
          subst h
          exact Runs.rt rfl
        · rw [if_neg c62] at h
          refine Runs.brF (P := (I 67 12) < 9) (a := 54) (b := 45) (L := [.ref 67]) (S := []) (z := (zS I J tg)) rfl c62 ?_
          refine Runs.sN 3 (c' := (51, [.ref 67], [.int 14, .int (I 67 12)], (zS I J tg))) rfl ?_
          by_cases c63 : (I 67 12) ≤ 14
          · rw [if_pos c63] at h
            refine Runs.brT (P := (I 67 12) ≤ 14) (a := 56) (b := 54) (L := [.ref 67]) (S := []) (z := (zS I J tg)) rfl c63 ?_
            refine Runs.sN 1 (c' := (57, [.ref 67], [.ref 67], (zS I J tg))) rfl ?_
            obtain ⟨I37, J38, tg39, c64, h⟩ := h
            refine Runs.cl (cm := 86) (as := [.ref 67]) (rest := []) (r1 := (none, (zS I37 J38 tg39))) rfl (Nat.le_of_ble_eq_true rfl) c64 ?_
            refine Runs.as (c' := (60, [.ref 67], [], (zS I37 J38 tg39))) rfl ?_
            refine Runs.sN 7 (c' := (71, [.ref 67], [.int 0], (zS (up2 (up2 I37 67 8 1) 67 7 2) J38 tg39))) rfl ?_
            subst h
            exact Runs.rt rfl
          · rw [if_neg c63] at h
            refine Runs.brF (P := (I 67 12) ≤ 14) (a := 56) (b := 54) (L := [.ref 67]) (S := []) (z := (zS I J tg)) rfl c63 ?_
            refine Runs.sN 1 (c' := (55, [.ref 67], [.int 1], (zS I J tg))) rfl ?_
            subst h
            exact Runs.rt rfl
      · rw [if_neg c61] at h
        refine Runs.brF (P := (I 67 8) = 0) (a := 36) (b := 72) (L := [.ref 67]) (S := []) (z := (zS I J tg)) rfl c61 ?_
        refine Runs.sN 3 (c' := (77, [.ref 67], [.int 1, .int (I 67 8)], (zS I J tg))) rfl ?_
        by_cases c65 : (I 67 8) = 1
        · rw [if_pos c65] at h
          refine Runs.brT (P := (I 67 8) = 1) (a := 89) (b := 80) (L := [.ref 67]) (S := []) (z := (zS I J tg)) rfl c65 ?_
          refine Runs.sN 1 (c' := (90, [.ref 67], [.ref 67], (zS I J tg))) rfl ?_
          obtain ⟨v40, I41, J42, tg43, c66, h⟩ := h
          refine Runs.cl (cm := 85) (as := [.ref 67]) (rest := []) (r1 := ((some (.int v40)), (zS I41 J42 tg43))) rfl (Nat.le_of_ble_eq_true rfl) c66 ?_
          refine Runs.as (c' := (93, [.ref 67], [.int v40], (zS I41 J42 tg43))) rfl ?_
          refine Runs.sN 1 (c' := (97, [.ref 67], [.int v40], (zS I41 J42 tg43))) rfl ?_
          subst h
          exact Runs.rt rfl
        · rw [if_neg c65] at h
          refine Runs.brF (P := (I 67 8) = 1) (a := 89) (b := 80) (L := [.ref 67]) (S := []) (z := (zS I J tg)) rfl c65 ?_
          refine Runs.sN 3 (c' := (86, [.ref 67], [.int 20, .int (I 67 12)], (zS I J tg))) rfl ?_
          by_cases c67 : (I 67 12) = 20
          · rw [if_pos c67] at h
            refine Runs.brT (P := (I 67 12) = 20) (a := 89) (b := 96) (L := [.ref 67]) (S := []) (z := (zS I J tg)) rfl c67 ?_
            refine Runs.sN 1 (c' := (90, [.ref 67], [.ref 67], (zS I J tg))) rfl ?_
            obtain ⟨v44, I45, J46, tg47, c68, h⟩ := h
            refine Runs.cl (cm := 85) (as := [.ref 67]) (rest := []) (r1 := ((some (.int v44)), (zS I45 J46 tg47))) rfl (Nat.le_of_ble_eq_true rfl) c68 ?_
            refine Runs.as (c' := (93, [.ref 67], [.int v44], (zS I45 J46 tg47))) rfl ?_
            refine Runs.sN 1 (c' := (97, [.ref 67], [.int v44], (zS I45 J46 tg47))) rfl ?_
            subst h
            exact Runs.rt rfl
          · rw [if_neg c67] at h
            refine Runs.brF (P := (I 67 12) = 20) (a := 89) (b := 96) (L := [.ref 67]) (S := []) (z := (zS I J tg)) rfl c67 ?_
            refine Runs.sN 1 (c' := (97, [.ref 67], [.int 1], (zS I J tg))) rfl ?_
            subst h
            exact Runs.rt rfl
    · rw [if_neg c60] at h
      refine Runs.brF (P := 17 < (I 67 12)) (a := 29) (b := 18) (L := [.ref 67]) (S := []) (z := (zS I J tg)) rfl c60 ?_
      refine Runs.sN 1 (c' := (19, [.ref 67], [.ref 67], (zS I J tg))) rfl ?_
      obtain ⟨I48, J49, tg50, c69, h⟩ := h
      refine Runs.cl (cm := 86) (as := [.ref 67]) (rest := []) (r1 := (none, (zS I48 J49 tg50))) rfl (Nat.le_of_ble_eq_true rfl) c69 ?_
      refine Runs.as (c' := (22, [.ref 67], [], (zS I48 J49 tg50))) rfl ?_
      refine Runs.sN 4 (c' := (28, [.ref 67], [.int 0], (zS (up2 I48 67 7 2) J49 tg50))) rfl ?_
      subst h
      exact Runs.rt rfl
-- X8_followAsk t47
theorem sg_85t47 {L d : Nat} {xs : Nat → Int32} (I : Nat → Nat → Int32) (J : Nat → Nat → Int64) (tg : Option Nat) {r : Option Value × SS} (h : ((if (I 67 12) = 7 then (∃ (I22 : Nat → Nat → Int32) (J23 : Nat → Nat → Int64) (tg24 : Option Nat), Runs (GW L xs) d 86 (0, [.ref 67], [], (zS I J (some 47))) (none, (zS I22 J23 tg24)) ∧ r = (some (.int 0), (zS (up2 I22 67 7 1) J23 tg24))) else ((if (I 67 12) = 8 then (∃ (I25 : Nat → Nat → Int32) (J26 : Nat → Nat → Int64) (tg27 : Option Nat), Runs (GW L xs) d 86 (0, [.ref 67], [], (zS I J (some 47))) (none, (zS I25 J26 tg27)) ∧ r = (some (.int 0), (zS (up2 I25 67 7 1) J26 tg27))) else ((if (I 67 12) = 19 then ((if (I 67 10) ≤ 0 then ((if (I 67 12) = 20 then ((if (I 67 10) = 0 then (∃ (I28 : Nat → Nat → Int32) (J29 : Nat → Nat → Int64) (tg30 : Option Nat), Runs (GW L xs) d 88 (0, [.ref 67, .int 1], [], (zS I J (some 47))) (none, (zS I28 J29 tg30)) ∧ ∃ (I31 : Nat → Nat → Int32) (J32 : Nat → Nat → Int64) (tg33 : Option Nat), Runs (GW L xs) d 24 (0, [.ref 47], [], (zS I28 J29 tg30)) (none, (zS I31 J32 tg33)) ∧ r = (some (.int 0), (zS (up2 I31 67 7 0) J32 tg33))) else (r = (some (.int 1), (zS I J (some 47)))))) else (r = (some (.int 1), (zS I J (some 47)))))) else (∃ (I34 : Nat → Nat → Int32) (J35 : Nat → Nat → Int64) (tg36 : Option Nat), Runs (GW L xs) d 88 (0, [.ref 67, .int 1], [], (zS I J (some 47))) (none, (zS I34 J35 tg36)) ∧ r = (some (.int 0), (zS (up2 (up2 (up2 I34 67 9 ((I34 67 9) - 1)) 67 10 ((I34 67 10) - 1)) 67 7 4) J35 tg36))))) else ((if (I 67 12) = 20 then ((if (I 67 10) = 0 then (∃ (I37 : Nat → Nat → Int32) (J38 : Nat → Nat → Int64) (tg39 : Option Nat), Runs (GW L xs) d 88 (0, [.ref 67, .int 1], [], (zS I J (some 47))) (none, (zS I37 J38 tg39)) ∧ ∃ (I40 : Nat → Nat → Int32) (J41 : Nat → Nat → Int64) (tg42 : Option Nat), Runs (GW L xs) d 24 (0, [.ref 47], [], (zS I37 J38 tg39)) (none, (zS I40 J41 tg42)) ∧ r = (some (.int 0), (zS (up2 I40 67 7 0) J41 tg42))) else (r = (some (.int 1), (zS I J (some 47)))))) else (r = (some (.int 1), (zS I J (some 47))))))))))))) : Runs (GW L xs) (d + 1) 85 (0, [.ref 67], [], (zS I J (some 47))) r := by
  refine Runs.sN 3 (c' := (6, [.ref 67], [.int 7, .int (I 67 12)], (zS I J (some 47)))) rfl ?_
  by_cases c43 : (I 67 12) = 7
  · rw [if_pos c43] at h
    refine Runs.brT (P := (I 67 12) = 7) (a := 18) (b := 9) (L := [.ref 67]) (S := []) (z := (zS I J (some 47))) rfl c43 ?_
    refine Runs.sN 1 (c' := (19, [.ref 67], [.ref 67], (zS I J (some 47)))) rfl ?_
    obtain ⟨I22, J23, tg24, c44, h⟩ := h
    refine Runs.cl (cm := 86) (as := [.ref 67]) (rest := []) (r1 := (none, (zS I22 J23 tg24))) rfl (Nat.le_of_ble_eq_true rfl) c44 ?_
    refine Runs.as (c' := (22, [.ref 67], [], (zS I22 J23 tg24))) rfl ?_
    refine Runs.sN 4 (c' := (28, [.ref 67], [.int 0], (zS (up2 I22 67 7 1) J23 tg24))) rfl ?_
    subst h
    exact Runs.rt rfl
  · rw [if_neg c43] at h
    refine Runs.brF (P := (I 67 12) = 7) (a := 18) (b := 9) (L := [.ref 67]) (S := []) (z := (zS I J (some 47))) rfl c43 ?_
    refine Runs.sN 3 (c' := (15, [.ref 67], [.int 8, .int (I 67 12)], (zS I J (some 47)))) rfl ?_
    by_cases c45 : (I 67 12) = 8
    · rw [if_pos c45] at h
      refine Runs.brT (P := (I 67 12) = 8) (a := 18) (b := 29) (L := [.ref 67]) (S := []) (z := (zS I J (some 47))) rfl c45 ?_
      refine Runs.sN 1 (c' := (19, [.ref 67], [.ref 67], (zS I J (some 47)))) rfl ?_
      obtain ⟨I25, J26, tg27, c46, h⟩ := h
      refine Runs.cl (cm := 86) (as := [.ref 67]) (rest := []) (r1 := (none, (zS I25 J26 tg27))) rfl (Nat.le_of_ble_eq_true rfl) c46 ?_
      refine Runs.as (c' := (22, [.ref 67], [], (zS I25 J26 tg27))) rfl ?_
      refine Runs.sN 4 (c' := (28, [.ref 67], [.int 0], (zS (up2 I25 67 7 1) J26 tg27))) rfl ?_
      subst h
      exact Runs.rt rfl
    · rw [if_neg c45] at h
      refine Runs.brF (P := (I 67 12) = 8) (a := 18) (b := 29) (L := [.ref 67]) (S := []) (z := (zS I J (some 47))) rfl c45 ?_
      refine Runs.sN 3 (c' := (35, [.ref 67], [.int 19, .int (I 67 12)], (zS I J (some 47)))) rfl ?_
      by_cases c47 : (I 67 12) = 19
      · rw [if_pos c47] at h
        refine Runs.brT (P := (I 67 12) = 19) (a := 38) (b := 77) (L := [.ref 67]) (S := []) (z := (zS I J (some 47))) rfl c47 ?_
        refine Runs.sN 2 (c' := (42, [.ref 67], [.int (I 67 10)], (zS I J (some 47)))) rfl ?_
        by_cases c48 : (I 67 10) ≤ 0
        · rw [if_pos c48] at h
          refine Runs.brT (P := (I 67 10) ≤ 0) (a := 77) (b := 45) (L := [.ref 67]) (S := []) (z := (zS I J (some 47))) rfl c48 ?_
          refine Runs.sN 3 (c' := (83, [.ref 67], [.int 20, .int (I 67 12)], (zS I J (some 47)))) rfl ?_
          by_cases c49 : (I 67 12) = 20
          · rw [if_pos c49] at h
            refine Runs.brT (P := (I 67 12) = 20) (a := 86) (b := 112) (L := [.ref 67]) (S := []) (z := (zS I J (some 47))) rfl c49 ?_
            refine Runs.sN 2 (c' := (90, [.ref 67], [.int (I 67 10)], (zS I J (some 47)))) rfl ?_
            by_cases c50 : (I 67 10) = 0
            · rw [if_pos c50] at h
              refine Runs.brT (P := (I 67 10) = 0) (a := 93) (b := 112) (L := [.ref 67]) (S := []) (z := (zS I J (some 47))) rfl c50 ?_
              refine Runs.sN 2 (c' := (95, [.ref 67], [.int 1, .ref 67], (zS I J (some 47)))) rfl ?_
              obtain ⟨I28, J29, tg30, c51, h⟩ := h
              refine Runs.cl (cm := 88) (as := [.ref 67, .int 1]) (rest := []) (r1 := (none, (zS I28 J29 tg30))) rfl (Nat.le_of_ble_eq_true rfl) c51 ?_
              refine Runs.as (c' := (98, [.ref 67], [], (zS I28 J29 tg30))) rfl ?_
              refine Runs.sN 2 (c' := (102, [.ref 67], [.ref 47], (zS I28 J29 tg30))) rfl ?_
              obtain ⟨I31, J32, tg33, c52, h⟩ := h
              refine Runs.cl (cm := 24) (as := [.ref 47]) (rest := []) (r1 := (none, (zS I31 J32 tg33))) rfl (Nat.le_of_ble_eq_true rfl) c52 ?_
              refine Runs.as (c' := (105, [.ref 67], [], (zS I31 J32 tg33))) rfl ?_
              refine Runs.sN 4 (c' := (111, [.ref 67], [.int 0], (zS (up2 I31 67 7 0) J32 tg33))) rfl ?_
              subst h
              exact Runs.rt rfl
            · rw [if_neg c50] at h
              refine Runs.brF (P := (I 67 10) = 0) (a := 93) (b := 112) (L := [.ref 67]) (S := []) (z := (zS I J (some 47))) rfl c50 ?_
              refine Runs.sN 1 (c' := (113, [.ref 67], [.int 1], (zS I J (some 47)))) rfl ?_
              subst h
              exact Runs.rt rfl
          · rw [if_neg c49] at h
            refine Runs.brF (P := (I 67 12) = 20) (a := 86) (b := 112) (L := [.ref 67]) (S := []) (z := (zS I J (some 47))) rfl c49 ?_
            refine Runs.sN 1 (c' := (113, [.ref 67], [.int 1], (zS I J (some 47)))) rfl ?_
            subst h
            exact Runs.rt rfl
        · rw [if_neg c48] at h
          refine Runs.brF (P := (I 67 10) ≤ 0) (a := 77) (b := 45) (L := [.ref 67]) (S := []) (z := (zS I J (some 47))) rfl c48 ?_
          refine Runs.sN 2 (c' := (47, [.ref 67], [.int 1, .ref 67], (zS I J (some 47)))) rfl ?_
          obtain ⟨I34, J35, tg36, c53, h⟩ := h
          refine Runs.cl (cm := 88) (as := [.ref 67, .int 1]) (rest := []) (r1 := (none, (zS I34 J35 tg36))) rfl (Nat.le_of_ble_eq_true rfl) c53 ?_
          refine Runs.as (c' := (50, [.ref 67], [], (zS I34 J35 tg36))) rfl ?_
          refine Runs.sN 16 (c' := (76, [.ref 67], [.int 0], (zS (up2 (up2 (up2 I34 67 9 ((I34 67 9) - 1)) 67 10 ((I34 67 10) - 1)) 67 7 4) J35 tg36))) rfl ?_
          subst h
          exact Runs.rt rfl
      · rw [if_neg c47] at h
        refine Runs.brF (P := (I 67 12) = 19) (a := 38) (b := 77) (L := [.ref 67]) (S := []) (z := (zS I J (some 47))) rfl c47 ?_
        refine Runs.sN 3 (c' := (83, [.ref 67], [.int 20, .int (I 67 12)], (zS I J (some 47)))) rfl ?_
        by_cases c54 : (I 67 12) = 20
        · rw [if_pos c54] at h
          refine Runs.brT (P := (I 67 12) = 20) (a := 86) (b := 112) (L := [.ref 67]) (S := []) (z := (zS I J (some 47))) rfl c54 ?_
          refine Runs.sN 2 (c' := (90, [.ref 67], [.int (I 67 10)], (zS I J (some 47)))) rfl ?_
          by_cases c55 : (I 67 10) = 0
          · rw [if_pos c55] at h
            refine Runs.brT (P := (I 67 10) = 0) (a := 93) (b := 112) (L := [.ref 67]) (S := []) (z := (zS I J (some 47))) rfl c55 ?_
            refine Runs.sN 2 (c' := (95, [.ref 67], [.int 1, .ref 67], (zS I J (some 47)))) rfl ?_
            obtain ⟨I37, J38, tg39, c56, h⟩ := h
            refine Runs.cl (cm := 88) (as := [.ref 67, .int 1]) (rest := []) (r1 := (none, (zS I37 J38 tg39))) rfl (Nat.le_of_ble_eq_true rfl) c56 ?_
            refine Runs.as (c' := (98, [.ref 67], [], (zS I37 J38 tg39))) rfl ?_
            refine Runs.sN 2 (c' := (102, [.ref 67], [.ref 47], (zS I37 J38 tg39))) rfl ?_
            obtain ⟨I40, J41, tg42, c57, h⟩ := h
            refine Runs.cl (cm := 24) (as := [.ref 47]) (rest := []) (r1 := (none, (zS I40 J41 tg42))) rfl (Nat.le_of_ble_eq_true rfl) c57 ?_
            refine Runs.as (c' := (105, [.ref 67], [], (zS I40 J41 tg42))) rfl ?_
            refine Runs.sN 4 (c' := (111, [.ref 67], [.int 0], (zS (up2 I40 67 7 0) J41 tg42))) rfl ?_
            subst h
            exact Runs.rt rfl
          · rw [if_neg c55] at h
            refine Runs.brF (P := (I 67 10) = 0) (a := 93) (b := 112) (L := [.ref 67]) (S := []) (z := (zS I J (some 47))) rfl c55 ?_
            refine Runs.sN 1 (c' := (113, [.ref 67], [.int 1], (zS I J (some 47)))) rfl ?_
            subst h
            exact Runs.rt rfl
        · rw [if_neg c54] at h
          refine Runs.brF (P := (I 67 12) = 20) (a := 86) (b := 112) (L := [.ref 67]) (S := []) (z := (zS I J (some 47))) rfl c54 ?_
          refine Runs.sN 1 (c' := (113, [.ref 67], [.int 1], (zS I J (some 47)))) rfl ?_
          subst h
          exact Runs.rt rfl
-- X8_followAsk t51
theorem sg_85t51 {L d : Nat} {xs : Nat → Int32} (I : Nat → Nat → Int32) (J : Nat → Nat → Int64) (tg : Option Nat) {r : Option Value × SS} (h : ((if (I 67 12) = 7 then (∃ (I22 : Nat → Nat → Int32) (J23 : Nat → Nat → Int64) (tg24 : Option Nat), Runs (GW L xs) d 86 (0, [.ref 67], [], (zS I J (some 51))) (none, (zS I22 J23 tg24)) ∧ r = (some (.int 0), (zS (up2 I22 67 7 1) J23 tg24))) else ((if (I 67 12) = 8 then (∃ (I25 : Nat → Nat → Int32) (J26 : Nat → Nat → Int64) (tg27 : Option Nat), Runs (GW L xs) d 86 (0, [.ref 67], [], (zS I J (some 51))) (none, (zS I25 J26 tg27)) ∧ r = (some (.int 0), (zS (up2 I25 67 7 1) J26 tg27))) else ((if (I 67 12) = 19 then ((if (I 67 10) ≤ 0 then ((if (I 67 12) = 20 then ((if (I 67 10) = 0 then (∃ (I28 : Nat → Nat → Int32) (J29 : Nat → Nat → Int64) (tg30 : Option Nat), Runs (GW L xs) d 88 (0, [.ref 67, .int 1], [], (zS I J (some 51))) (none, (zS I28 J29 tg30)) ∧ ∃ (I31 : Nat → Nat → Int32) (J32 : Nat → Nat → Int64) (tg33 : Option Nat), Runs (GW L xs) d 24 (0, [.ref 51], [], (zS I28 J29 tg30)) (none, (zS I31 J32 tg33)) ∧ r = (some (.int 0), (zS (up2 I31 67 7 0) J32 tg33))) else (r = (some (.int 1), (zS I J (some 51)))))) else (r = (some (.int 1), (zS I J (some 51)))))) else (∃ (I34 : Nat → Nat → Int32) (J35 : Nat → Nat → Int64) (tg36 : Option Nat), Runs (GW L xs) d 88 (0, [.ref 67, .int 1], [], (zS I J (some 51))) (none, (zS I34 J35 tg36)) ∧ r = (some (.int 0), (zS (up2 (up2 (up2 I34 67 9 ((I34 67 9) - 1)) 67 10 ((I34 67 10) - 1)) 67 7 4) J35 tg36))))) else ((if (I 67 12) = 20 then ((if (I 67 10) = 0 then (∃ (I37 : Nat → Nat → Int32) (J38 : Nat → Nat → Int64) (tg39 : Option Nat), Runs (GW L xs) d 88 (0, [.ref 67, .int 1], [], (zS I J (some 51))) (none, (zS I37 J38 tg39)) ∧ ∃ (I40 : Nat → Nat → Int32) (J41 : Nat → Nat → Int64) (tg42 : Option Nat), Runs (GW L xs) d 24 (0, [.ref 51], [], (zS I37 J38 tg39)) (none, (zS I40 J41 tg42)) ∧ r = (some (.int 0), (zS (up2 I40 67 7 0) J41 tg42))) else (r = (some (.int 1), (zS I J (some 51)))))) else (r = (some (.int 1), (zS I J (some 51))))))))))))) : Runs (GW L xs) (d + 1) 85 (0, [.ref 67], [], (zS I J (some 51))) r := by
  refine Runs.sN 3 (c' := (6, [.ref 67], [.int 7, .int (I 67 12)], (zS I J (some 51)))) rfl ?_
  by_cases c43 : (I 67 12) = 7
  · rw [if_pos c43] at h
    refine Runs.brT (P := (I 67 12) = 7) (a := 18) (b := 9) (L := [.ref 67]) (S := []) (z := (zS I J (some 51))) rfl c43 ?_
    refine Runs.sN 1 (c' := (19, [.ref 67], [.ref 67], (zS I J (some 51)))) rfl ?_
    obtain ⟨I22, J23, tg24, c44, h⟩ := h
    refine Runs.cl (cm := 86) (as := [.ref 67]) (rest := []) (r1 := (none, (zS I22 J23 tg24))) rfl (Nat.le_of_ble_eq_true rfl) c44 ?_
    refine Runs.as (c' := (22, [.ref 67], [], (zS I22 J23 tg24))) rfl ?_
    refine Runs.sN 4 (c' := (28, [.ref 67], [.int 0], (zS (up2 I22 67 7 1) J23 tg24))) rfl ?_
    subst h
    exact Runs.rt rfl
  · rw [if_neg c43] at h
    refine Runs.brF (P := (I 67 12) = 7) (a := 18) (b := 9) (L := [.ref 67]) (S := []) (z := (zS I J (some 51))) rfl c43 ?_
    refine Runs.sN 3 (c' := (15, [.ref 67], [.int 8, .int (I 67 12)], (zS I J (some 51)))) rfl ?_
    by_cases c45 : (I 67 12) = 8
    · rw [if_pos c45] at h
      refine Runs.brT (P := (I 67 12) = 8) (a := 18) (b := 29) (L := [.ref 67]) (S := []) (z := (zS I J (some 51))) rfl c45 ?_
      refine Runs.sN 1 (c' := (19, [.ref 67], [.ref 67], (zS I J (some 51)))) rfl ?_
      obtain ⟨I25, J26, tg27, c46, h⟩ := h
      refine Runs.cl (cm := 86) (as := [.ref 67]) (rest := []) (r1 := (none, (zS I25 J26 tg27))) rfl (Nat.le_of_ble_eq_true rfl) c46 ?_
      refine Runs.as (c' := (22, [.ref 67], [], (zS I25 J26 tg27))) rfl ?_
      refine Runs.sN 4 (c' := (28, [.ref 67], [.int 0], (zS (up2 I25 67 7 1) J26 tg27))) rfl ?_
      subst h
      exact Runs.rt rfl
    · rw [if_neg c45] at h
      refine Runs.brF (P := (I 67 12) = 8) (a := 18) (b := 29) (L := [.ref 67]) (S := []) (z := (zS I J (some 51))) rfl c45 ?_
      refine Runs.sN 3 (c' := (35, [.ref 67], [.int 19, .int (I 67 12)], (zS I J (some 51)))) rfl ?_
      by_cases c47 : (I 67 12) = 19
      · rw [if_pos c47] at h
        refine Runs.brT (P := (I 67 12) = 19) (a := 38) (b := 77) (L := [.ref 67]) (S := []) (z := (zS I J (some 51))) rfl c47 ?_
        refine Runs.sN 2 (c' := (42, [.ref 67], [.int (I 67 10)], (zS I J (some 51)))) rfl ?_
        by_cases c48 : (I 67 10) ≤ 0
        · rw [if_pos c48] at h
          refine Runs.brT (P := (I 67 10) ≤ 0) (a := 77) (b := 45) (L := [.ref 67]) (S := []) (z := (zS I J (some 51))) rfl c48 ?_
          refine Runs.sN 3 (c' := (83, [.ref 67], [.int 20, .int (I 67 12)], (zS I J (some 51)))) rfl ?_
          by_cases c49 : (I 67 12) = 20
          · rw [if_pos c49] at h
            refine Runs.brT (P := (I 67 12) = 20) (a := 86) (b := 112) (L := [.ref 67]) (S := []) (z := (zS I J (some 51))) rfl c49 ?_
            refine Runs.sN 2 (c' := (90, [.ref 67], [.int (I 67 10)], (zS I J (some 51)))) rfl ?_
            by_cases c50 : (I 67 10) = 0
            · rw [if_pos c50] at h
              refine Runs.brT (P := (I 67 10) = 0) (a := 93) (b := 112) (L := [.ref 67]) (S := []) (z := (zS I J (some 51))) rfl c50 ?_
              refine Runs.sN 2 (c' := (95, [.ref 67], [.int 1, .ref 67], (zS I J (some 51)))) rfl ?_
              obtain ⟨I28, J29, tg30, c51, h⟩ := h
              refine Runs.cl (cm := 88) (as := [.ref 67, .int 1]) (rest := []) (r1 := (none, (zS I28 J29 tg30))) rfl (Nat.le_of_ble_eq_true rfl) c51 ?_
              refine Runs.as (c' := (98, [.ref 67], [], (zS I28 J29 tg30))) rfl ?_
              refine Runs.sN 2 (c' := (102, [.ref 67], [.ref 51], (zS I28 J29 tg30))) rfl ?_
              obtain ⟨I31, J32, tg33, c52, h⟩ := h
              refine Runs.cl (cm := 24) (as := [.ref 51]) (rest := []) (r1 := (none, (zS I31 J32 tg33))) rfl (Nat.le_of_ble_eq_true rfl) c52 ?_
              refine Runs.as (c' := (105, [.ref 67], [], (zS I31 J32 tg33))) rfl ?_
              refine Runs.sN 4 (c' := (111, [.ref 67], [.int 0], (zS (up2 I31 67 7 0) J32 tg33))) rfl ?_
              subst h
              exact Runs.rt rfl
            · rw [if_neg c50] at h
              refine Runs.brF (P := (I 67 10) = 0) (a := 93) (b := 112) (L := [.ref 67]) (S := []) (z := (zS I J (some 51))) rfl c50 ?_
              refine Runs.sN 1 (c' := (113, [.ref 67], [.int 1], (zS I J (some 51)))) rfl ?_
              subst h
              exact Runs.rt rfl
          · rw [if_neg c49] at h
            refine Runs.brF (P := (I 67 12) = 20) (a := 86) (b := 112) (L := [.ref 67]) (S := []) (z := (zS I J (some 51))) rfl c49 ?_
            refine Runs.sN 1 (c' := (113, [.ref 67], [.int 1], (zS I J (some 51)))) rfl ?_
            subst h
            exact Runs.rt rfl
        · rw [if_neg c48] at h
          refine Runs.brF (P := (I 67 10) ≤ 0) (a := 77) (b := 45) (L := [.ref 67]) (S := []) (z := (zS I J (some 51))) rfl c48 ?_
          refine Runs.sN 2 (c' := (47, [.ref 67], [.int 1, .ref 67], (zS I J (some 51)))) rfl ?_
          obtain ⟨I34, J35, tg36, c53, h⟩ := h
          refine Runs.cl (cm := 88) (as := [.ref 67, .int 1]) (rest := []) (r1 := (none, (zS I34 J35 tg36))) rfl (Nat.le_of_ble_eq_true rfl) c53 ?_
          refine Runs.as (c' := (50, [.ref 67], [], (zS I34 J35 tg36))) rfl ?_
          refine Runs.sN 16 (c' := (76, [.ref 67], [.int 0], (zS (up2 (up2 (up2 I34 67 9 ((I34 67 9) - 1)) 67 10 ((I34 67 10) - 1)) 67 7 4) J35 tg36))) rfl ?_
          subst h
          exact Runs.rt rfl
      · rw [if_neg c47] at h
        refine Runs.brF (P := (I 67 12) = 19) (a := 38) (b := 77) (L := [.ref 67]) (S := []) (z := (zS I J (some 51))) rfl c47 ?_
        refine Runs.sN 3 (c' := (83, [.ref 67], [.int 20, .int (I 67 12)], (zS I J (some 51)))) rfl ?_
        by_cases c54 : (I 67 12) = 20
        · rw [if_pos c54] at h
          refine Runs.brT (P := (I 67 12) = 20) (a := 86) (b := 112) (L := [.ref 67]) (S := []) (z := (zS I J (some 51))) rfl c54 ?_
          refine Runs.sN 2 (c' := (90, [.ref 67], [.int (I 67 10)], (zS I J (some 51)))) rfl ?_
          by_cases c55 : (I 67 10) = 0
          · rw [if_pos c55] at h
            refine Runs.brT (P := (I 67 10) = 0) (a := 93) (b := 112) (L := [.ref 67]) (S := []) (z := (zS I J (some 51))) rfl c55 ?_
            refine Runs.sN 2 (c' := (95, [.ref 67], [.int 1, .ref 67], (zS I J (some 51)))) rfl ?_
            obtain ⟨I37, J38, tg39, c56, h⟩ := h
            refine Runs.cl (cm := 88) (as := [.ref 67, .int 1]) (rest := []) (r1 := (none, (zS I37 J38 tg39))) rfl (Nat.le_of_ble_eq_true rfl) c56 ?_
            refine Runs.as (c' := (98, [.ref 67], [], (zS I37 J38 tg39))) rfl ?_
            refine Runs.sN 2 (c' := (102, [.ref 67], [.ref 51], (zS I37 J38 tg39))) rfl ?_
            obtain ⟨I40, J41, tg42, c57, h⟩ := h
            refine Runs.cl (cm := 24) (as := [.ref 51]) (rest := []) (r1 := (none, (zS I40 J41 tg42))) rfl (Nat.le_of_ble_eq_true rfl) c57 ?_
            refine Runs.as (c' := (105, [.ref 67], [], (zS I40 J41 tg42))) rfl ?_
            refine Runs.sN 4 (c' := (111, [.ref 67], [.int 0], (zS (up2 I40 67 7 0) J41 tg42))) rfl ?_
            subst h
            exact Runs.rt rfl
          · rw [if_neg c55] at h
            refine Runs.brF (P := (I 67 10) = 0) (a := 93) (b := 112) (L := [.ref 67]) (S := []) (z := (zS I J (some 51))) rfl c55 ?_
            refine Runs.sN 1 (c' := (113, [.ref 67], [.int 1], (zS I J (some 51)))) rfl ?_
            subst h
            exact Runs.rt rfl
        · rw [if_neg c54] at h
          refine Runs.brF (P := (I 67 12) = 20) (a := 86) (b := 112) (L := [.ref 67]) (S := []) (z := (zS I J (some 51))) rfl c54 ?_
          refine Runs.sN 1 (c' := (113, [.ref 67], [.int 1], (zS I J (some 51)))) rfl ?_
          subst h
          exact Runs.rt rfl
-- X8_followAsk t55
theorem sg_85t55 {L d : Nat} {xs : Nat → Int32} (I : Nat → Nat → Int32) (J : Nat → Nat → Int64) (tg : Option Nat) {r : Option Value × SS} (h : ((if (I 67 12) = 7 then (∃ (I22 : Nat → Nat → Int32) (J23 : Nat → Nat → Int64) (tg24 : Option Nat), Runs (GW L xs) d 86 (0, [.ref 67], [], (zS I J (some 55))) (none, (zS I22 J23 tg24)) ∧ r = (some (.int 0), (zS (up2 I22 67 7 1) J23 tg24))) else ((if (I 67 12) = 8 then (∃ (I25 : Nat → Nat → Int32) (J26 : Nat → Nat → Int64) (tg27 : Option Nat), Runs (GW L xs) d 86 (0, [.ref 67], [], (zS I J (some 55))) (none, (zS I25 J26 tg27)) ∧ r = (some (.int 0), (zS (up2 I25 67 7 1) J26 tg27))) else ((if (I 67 12) = 19 then ((if (I 67 10) ≤ 0 then ((if (I 67 12) = 20 then ((if (I 67 10) = 0 then (∃ (I28 : Nat → Nat → Int32) (J29 : Nat → Nat → Int64) (tg30 : Option Nat), Runs (GW L xs) d 88 (0, [.ref 67, .int 1], [], (zS I J (some 55))) (none, (zS I28 J29 tg30)) ∧ ∃ (I31 : Nat → Nat → Int32) (J32 : Nat → Nat → Int64) (tg33 : Option Nat), Runs (GW L xs) d 24 (0, [.ref 55], [], (zS I28 J29 tg30)) (none, (zS I31 J32 tg33)) ∧ r = (some (.int 0), (zS (up2 I31 67 7 0) J32 tg33))) else (r = (some (.int 1), (zS I J (some 55)))))) else (r = (some (.int 1), (zS I J (some 55)))))) else (∃ (I34 : Nat → Nat → Int32) (J35 : Nat → Nat → Int64) (tg36 : Option Nat), Runs (GW L xs) d 88 (0, [.ref 67, .int 1], [], (zS I J (some 55))) (none, (zS I34 J35 tg36)) ∧ r = (some (.int 0), (zS (up2 (up2 (up2 I34 67 9 ((I34 67 9) - 1)) 67 10 ((I34 67 10) - 1)) 67 7 4) J35 tg36))))) else ((if (I 67 12) = 20 then ((if (I 67 10) = 0 then (∃ (I37 : Nat → Nat → Int32) (J38 : Nat → Nat → Int64) (tg39 : Option Nat), Runs (GW L xs) d 88 (0, [.ref 67, .int 1], [], (zS I J (some 55))) (none, (zS I37 J38 tg39)) ∧ ∃ (I40 : Nat → Nat → Int32) (J41 : Nat → Nat → Int64) (tg42 : Option Nat), Runs (GW L xs) d 24 (0, [.ref 55], [], (zS I37 J38 tg39)) (none, (zS I40 J41 tg42)) ∧ r = (some (.int 0), (zS (up2 I40 67 7 0) J41 tg42))) else (r = (some (.int 1), (zS I J (some 55)))))) else (r = (some (.int 1), (zS I J (some 55))))))))))))) : Runs (GW L xs) (d + 1) 85 (0, [.ref 67], [], (zS I J (some 55))) r := by
  refine Runs.sN 3 (c' := (6, [.ref 67], [.int 7, .int (I 67 12)], (zS I J (some 55)))) rfl ?_
  by_cases c43 : (I 67 12) = 7
  · rw [if_pos c43] at h
    refine Runs.brT (P := (I 67 12) = 7) (a := 18) (b := 9) (L := [.ref 67]) (S := []) (z := (zS I J (some 55))) rfl c43 ?_
    refine Runs.sN 1 (c' := (19, [.ref 67], [.ref 67], (zS I J (some 55)))) rfl ?_
    obtain ⟨I22, J23, tg24, c44, h⟩ := h
    refine Runs.cl (cm := 86) (as := [.ref 67]) (rest := []) (r1 := (none, (zS I22 J23 tg24))) rfl (Nat.le_of_ble_eq_true rfl) c44 ?_
    refine Runs.as (c' := (22, [.ref 67], [], (zS I22 J23 tg24))) rfl ?_
    refine Runs.sN 4 (c' := (28, [.ref 67], [.int 0], (zS (up2 I22 67 7 1) J23 tg24))) rfl ?_
    subst h
    exact Runs.rt rfl
  · rw [if_neg c43] at h
    refine Runs.brF (P := (I 67 12) = 7) (a := 18) (b := 9) (L := [.ref 67]) (S := []) (z := (zS I J (some 55))) rfl c43 ?_
    refine Runs.sN 3 (c' := (15, [.ref 67], [.int 8, .int (I 67 12)], (zS I J (some 55)))) rfl ?_
    by_cases c45 : (I 67 12) = 8
    · rw [if_pos c45] at h
      refine Runs.brT (P := (I 67 12) = 8) (a := 18) (b := 29) (L := [.ref 67]) (S := []) (z := (zS I J (some 55))) rfl c45 ?_
      refine Runs.sN 1 (c' := (19, [.ref 67], [.ref 67], (zS I J (some 55)))) rfl ?_
      obtain ⟨I25, J26, tg27, c46, h⟩ := h
      refine Runs.cl (cm := 86) (as := [.ref 67]) (rest := []) (r1 := (none, (zS I25 J26 tg27))) rfl (Nat.le_of_ble_eq_true rfl) c46 ?_
      refine Runs.as (c' := (22, [.ref 67], [], (zS I25 J26 tg27))) rfl ?_
      refine Runs.sN 4 (c' := (28, [.ref 67], [.int 0], (zS (up2 I25 67 7 1) J26 tg27))) rfl ?_
      subst h
      exact Runs.rt rfl
    · rw [if_neg c45] at h
      refine Runs.brF (P := (I 67 12) = 8) (a := 18) (b := 29) (L := [.ref 67]) (S := []) (z := (zS I J (some 55))) rfl c45 ?_
      refine Runs.sN 3 (c' := (35, [.ref 67], [.int 19, .int (I 67 12)], (zS I J (some 55)))) rfl ?_
      by_cases c47 : (I 67 12) = 19
      · rw [if_pos c47] at h
        refine Runs.brT (P := (I 67 12) = 19) (a := 38) (b := 77) (L := [.ref 67]) (S := []) (z := (zS I J (some 55))) rfl c47 ?_
        refine Runs.sN 2 (c' := (42, [.ref 67], [.int (I 67 10)], (zS I J (some 55)))) rfl ?_
        by_cases c48 : (I 67 10) ≤ 0
        · rw [if_pos c48] at h
          refine Runs.brT (P := (I 67 10) ≤ 0) (a := 77) (b := 45) (L := [.ref 67]) (S := []) (z := (zS I J (some 55))) rfl c48 ?_
          refine Runs.sN 3 (c' := (83, [.ref 67], [.int 20, .int (I 67 12)], (zS I J (some 55)))) rfl ?_
          by_cases c49 : (I 67 12) = 20
          · rw [if_pos c49] at h
            refine Runs.brT (P := (I 67 12) = 20) (a := 86) (b := 112) (L := [.ref 67]) (S := []) (z := (zS I J (some 55))) rfl c49 ?_
            refine Runs.sN 2 (c' := (90, [.ref 67], [.int (I 67 10)], (zS I J (some 55)))) rfl ?_
            by_cases c50 : (I 67 10) = 0
            · rw [if_pos c50] at h
              refine Runs.brT (P := (I 67 10) = 0) (a := 93) (b := 112) (L := [.ref 67]) (S := []) (z := (zS I J (some 55))) rfl c50 ?_
              refine Runs.sN 2 (c' := (95, [.ref 67], [.int 1, .ref 67], (zS I J (some 55)))) rfl ?_
              obtain ⟨I28, J29, tg30, c51, h⟩ := h
              refine Runs.cl (cm := 88) (as := [.ref 67, .int 1]) (rest := []) (r1 := (none, (zS I28 J29 tg30))) rfl (Nat.le_of_ble_eq_true rfl) c51 ?_
              refine Runs.as (c' := (98, [.ref 67], [], (zS I28 J29 tg30))) rfl ?_
              refine Runs.sN 2 (c' := (102, [.ref 67], [.ref 55], (zS I28 J29 tg30))) rfl ?_
              obtain ⟨I31, J32, tg33, c52, h⟩ := h
              refine Runs.cl (cm := 24) (as := [.ref 55]) (rest := []) (r1 := (none, (zS I31 J32 tg33))) rfl (Nat.le_of_ble_eq_true rfl) c52 ?_
              refine Runs.as (c' := (105, [.ref 67], [], (zS I31 J32 tg33))) rfl ?_
              refine Runs.sN 4 (c' := (111, [.ref 67], [.int 0], (zS (up2 I31 67 7 0) J32 tg33))) rfl ?_
              subst h
              exact Runs.rt rfl
            · rw [if_neg c50] at h
              refine Runs.brF (P := (I 67 10) = 0) (a := 93) (b := 112) (L := [.ref 67]) (S := []) (z := (zS I J (some 55))) rfl c50 ?_
              refine Runs.sN 1 (c' := (113, [.ref 67], [.int 1], (zS I J (some 55)))) rfl ?_
              subst h
              exact Runs.rt rfl
          · rw [if_neg c49] at h
            refine Runs.brF (P := (I 67 12) = 20) (a := 86) (b := 112) (L := [.ref 67]) (S := []) (z := (zS I J (some 55))) rfl c49 ?_
            refine Runs.sN 1 (c' := (113, [.ref 67], [.int 1], (zS I J (some 55)))) rfl ?_
            subst h
            exact Runs.rt rfl
        · rw [if_neg c48] at h
          refine Runs.brF (P := (I 67 10) ≤ 0) (a := 77) (b := 45) (L := [.ref 67]) (S := []) (z := (zS I J (some 55))) rfl c48 ?_
          refine Runs.sN 2 (c' := (47, [.ref 67], [.int 1, .ref 67], (zS I J (some 55)))) rfl ?_
          obtain ⟨I34, J35, tg36, c53, h⟩ := h
          refine Runs.cl (cm := 88) (as := [.ref 67, .int 1]) (rest := []) (r1 := (none, (zS I34 J35 tg36))) rfl (Nat.le_of_ble_eq_true rfl) c53 ?_
          refine Runs.as (c' := (50, [.ref 67], [], (zS I34 J35 tg36))) rfl ?_
          refine Runs.sN 16 (c' := (76, [.ref 67], [.int 0], (zS (up2 (up2 (up2 I34 67 9 ((I34 67 9) - 1)) 67 10 ((I34 67 10) - 1)) 67 7 4) J35 tg36))) rfl ?_
          subst h
          exact Runs.rt rfl
      · rw [if_neg c47] at h
        refine Runs.brF (P := (I 67 12) = 19) (a := 38) (b := 77) (L := [.ref 67]) (S := []) (z := (zS I J (some 55))) rfl c47 ?_
        refine Runs.sN 3 (c' := (83, [.ref 67], [.int 20, .int (I 67 12)], (zS I J (some 55)))) rfl ?_
        by_cases c54 : (I 67 12) = 20
        · rw [if_pos c54] at h
          refine Runs.brT (P := (I 67 12) = 20) (a := 86) (b := 112) (L := [.ref 67]) (S := []) (z := (zS I J (some 55))) rfl c54 ?_
          refine Runs.sN 2 (c' := (90, [.ref 67], [.int (I 67 10)], (zS I J (some 55)))) rfl ?_
          by_cases c55 : (I 67 10) = 0
          · rw [if_pos c55] at h
            refine Runs.brT (P := (I 67 10) = 0) (a := 93) (b := 112) (L := [.ref 67]) (S := []) (z := (zS I J (some 55))) rfl c55 ?_
            refine Runs.sN 2 (c' := (95, [.ref 67], [.int 1, .ref 67], (zS I J (some 55)))) rfl ?_
            obtain ⟨I37, J38, tg39, c56, h⟩ := h
            refine Runs.cl (cm := 88) (as := [.ref 67, .int 1]) (rest := []) (r1 := (none, (zS I37 J38 tg39))) rfl (Nat.le_of_ble_eq_true rfl) c56 ?_
            refine Runs.as (c' := (98, [.ref 67], [], (zS I37 J38 tg39))) rfl ?_
            refine Runs.sN 2 (c' := (102, [.ref 67], [.ref 55], (zS I37 J38 tg39))) rfl ?_
            obtain ⟨I40, J41, tg42, c57, h⟩ := h
            refine Runs.cl (cm := 24) (as := [.ref 55]) (rest := []) (r1 := (none, (zS I40 J41 tg42))) rfl (Nat.le_of_ble_eq_true rfl) c57 ?_
            refine Runs.as (c' := (105, [.ref 67], [], (zS I40 J41 tg42))) rfl ?_
            refine Runs.sN 4 (c' := (111, [.ref 67], [.int 0], (zS (up2 I40 67 7 0) J41 tg42))) rfl ?_
            subst h
            exact Runs.rt rfl
          · rw [if_neg c55] at h
            refine Runs.brF (P := (I 67 10) = 0) (a := 93) (b := 112) (L := [.ref 67]) (S := []) (z := (zS I J (some 55))) rfl c55 ?_
            refine Runs.sN 1 (c' := (113, [.ref 67], [.int 1], (zS I J (some 55)))) rfl ?_
            subst h
            exact Runs.rt rfl
        · rw [if_neg c54] at h
          refine Runs.brF (P := (I 67 12) = 20) (a := 86) (b := 112) (L := [.ref 67]) (S := []) (z := (zS I J (some 55))) rfl c54 ?_
          refine Runs.sN 1 (c' := (113, [.ref 67], [.int 1], (zS I J (some 55)))) rfl ?_
          subst h
          exact Runs.rt rfl
-- X8_followAsk t59
theorem sg_85t59 {L d : Nat} {xs : Nat → Int32} (I : Nat → Nat → Int32) (J : Nat → Nat → Int64) (tg : Option Nat) {r : Option Value × SS} (h : ((if (I 67 12) = 7 then (∃ (I22 : Nat → Nat → Int32) (J23 : Nat → Nat → Int64) (tg24 : Option Nat), Runs (GW L xs) d 86 (0, [.ref 67], [], (zS I J (some 59))) (none, (zS I22 J23 tg24)) ∧ r = (some (.int 0), (zS (up2 I22 67 7 1) J23 tg24))) else ((if (I 67 12) = 8 then (∃ (I25 : Nat → Nat → Int32) (J26 : Nat → Nat → Int64) (tg27 : Option Nat), Runs (GW L xs) d 86 (0, [.ref 67], [], (zS I J (some 59))) (none, (zS I25 J26 tg27)) ∧ r = (some (.int 0), (zS (up2 I25 67 7 1) J26 tg27))) else ((if (I 67 12) = 19 then ((if (I 67 10) ≤ 0 then ((if (I 67 12) = 20 then ((if (I 67 10) = 0 then (∃ (I28 : Nat → Nat → Int32) (J29 : Nat → Nat → Int64) (tg30 : Option Nat), Runs (GW L xs) d 88 (0, [.ref 67, .int 1], [], (zS I J (some 59))) (none, (zS I28 J29 tg30)) ∧ ∃ (I31 : Nat → Nat → Int32) (J32 : Nat → Nat → Int64) (tg33 : Option Nat), Runs (GW L xs) d 24 (0, [.ref 59], [], (zS I28 J29 tg30)) (none, (zS I31 J32 tg33)) ∧ r = (some (.int 0), (zS (up2 I31 67 7 0) J32 tg33))) else (r = (some (.int 1), (zS I J (some 59)))))) else (r = (some (.int 1), (zS I J (some 59)))))) else (∃ (I34 : Nat → Nat → Int32) (J35 : Nat → Nat → Int64) (tg36 : Option Nat), Runs (GW L xs) d 88 (0, [.ref 67, .int 1], [], (zS I J (some 59))) (none, (zS I34 J35 tg36)) ∧ r = (some (.int 0), (zS (up2 (up2 (up2 I34 67 9 ((I34 67 9) - 1)) 67 10 ((I34 67 10) - 1)) 67 7 4) J35 tg36))))) else ((if (I 67 12) = 20 then ((if (I 67 10) = 0 then (∃ (I37 : Nat → Nat → Int32) (J38 : Nat → Nat → Int64) (tg39 : Option Nat), Runs (GW L xs) d 88 (0, [.ref 67, .int 1], [], (zS I J (some 59))) (none, (zS I37 J38 tg39)) ∧ ∃ (I40 : Nat → Nat → Int32) (J41 : Nat → Nat → Int64) (tg42 : Option Nat), Runs (GW L xs) d 24 (0, [.ref 59], [], (zS I37 J38 tg39)) (none, (zS I40 J41 tg42)) ∧ r = (some (.int 0), (zS (up2 I40 67 7 0) J41 tg42))) else (r = (some (.int 1), (zS I J (some 59)))))) else (r = (some (.int 1), (zS I J (some 59))))))))))))) : Runs (GW L xs) (d + 1) 85 (0, [.ref 67], [], (zS I J (some 59))) r := by
  refine Runs.sN 3 (c' := (6, [.ref 67], [.int 7, .int (I 67 12)], (zS I J (some 59)))) rfl ?_
  by_cases c43 : (I 67 12) = 7
  · rw [if_pos c43] at h
    refine Runs.brT (P := (I 67 12) = 7) (a := 18) (b := 9) (L := [.ref 67]) (S := []) (z := (zS I J (some 59))) rfl c43 ?_
    refine Runs.sN 1 (c' := (19, [.ref 67], [.ref 67], (zS I J (some 59)))) rfl ?_
    obtain ⟨I22, J23, tg24, c44, h⟩ := h
    refine Runs.cl (cm := 86) (as := [.ref 67]) (rest := []) (r1 := (none, (zS I22 J23 tg24))) rfl (Nat.le_of_ble_eq_true rfl) c44 ?_
    refine Runs.as (c' := (22, [.ref 67], [], (zS I22 J23 tg24))) rfl ?_
    refine Runs.sN 4 (c' := (28, [.ref 67], [.int 0], (zS (up2 I22 67 7 1) J23 tg24))) rfl ?_
    subst h
    exact Runs.rt rfl
  · rw [if_neg c43] at h
    refine Runs.brF (P := (I 67 12) = 7) (a := 18) (b := 9) (L := [.ref 67]) (S := []) (z := (zS I J (some 59))) rfl c43 ?_
    refine Runs.sN 3 (c' := (15, [.ref 67], [.int 8, .int (I 67 12)], (zS I J (some 59)))) rfl ?_
    by_cases c45 : (I 67 12) = 8
    · rw [if_pos c45] at h
      refine Runs.brT (P := (I 67 12) = 8) (a := 18) (b := 29) (L := [.ref 67]) (S := []) (z := (zS I J (some 59))) rfl c45 ?_
      refine Runs.sN 1 (c' := (19, [.ref 67], [.ref 67], (zS I J (some 59)))) rfl ?_
      obtain ⟨I25, J26, tg27, c46, h⟩ := h
      refine Runs.cl (cm := 86) (as := [.ref 67]) (rest := []) (r1 := (none, (zS I25 J26 tg27))) rfl (Nat.le_of_ble_eq_true rfl) c46 ?_
      refine Runs.as (c' := (22, [.ref 67], [], (zS I25 J26 tg27))) rfl ?_
      refine Runs.sN 4 (c' := (28, [.ref 67], [.int 0], (zS (up2 I25 67 7 1) J26 tg27))) rfl ?_
      subst h
      exact Runs.rt rfl
    · rw [if_neg c45] at h
      refine Runs.brF (P := (I 67 12) = 8) (a := 18) (b := 29) (L := [.ref 67]) (S := []) (z := (zS I J (some 59))) rfl c45 ?_
      refine Runs.sN 3 (c' := (35, [.ref 67], [.int 19, .int (I 67 12)], (zS I J (some 59)))) rfl ?_
      by_cases c47 : (I 67 12) = 19
      · rw [if_pos c47] at h
        refine Runs.brT (P := (I 67 12) = 19) (a := 38) (b := 77) (L := [.ref 67]) (S := []) (z := (zS I J (some 59))) rfl c47 ?_
        refine Runs.sN 2 (c' := (42, [.ref 67], [.int (I 67 10)], (zS I J (some 59)))) rfl ?_
        by_cases c48 : (I 67 10) ≤ 0
        · rw [if_pos c48] at h
          refine Runs.brT (P := (I 67 10) ≤ 0) (a := 77) (b := 45) (L := [.ref 67]) (S := []) (z := (zS I J (some 59))) rfl c48 ?_
          refine Runs.sN 3 (c' := (83, [.ref 67], [.int 20, .int (I 67 12)], (zS I J (some 59)))) rfl ?_
          by_cases c49 : (I 67 12) = 20
          · rw [if_pos c49] at h
            refine Runs.brT (P := (I 67 12) = 20) (a := 86) (b := 112) (L := [.ref 67]) (S := []) (z := (zS I J (some 59))) rfl c49 ?_
            refine Runs.sN 2 (c' := (90, [.ref 67], [.int (I 67 10)], (zS I J (some 59)))) rfl ?_
            by_cases c50 : (I 67 10) = 0
            · rw [if_pos c50] at h
              refine Runs.brT (P := (I 67 10) = 0) (a := 93) (b := 112) (L := [.ref 67]) (S := []) (z := (zS I J (some 59))) rfl c50 ?_
              refine Runs.sN 2 (c' := (95, [.ref 67], [.int 1, .ref 67], (zS I J (some 59)))) rfl ?_
              obtain ⟨I28, J29, tg30, c51, h⟩ := h
              refine Runs.cl (cm := 88) (as := [.ref 67, .int 1]) (rest := []) (r1 := (none, (zS I28 J29 tg30))) rfl (Nat.le_of_ble_eq_true rfl) c51 ?_
              refine Runs.as (c' := (98, [.ref 67], [], (zS I28 J29 tg30))) rfl ?_
              refine Runs.sN 2 (c' := (102, [.ref 67], [.ref 59], (zS I28 J29 tg30))) rfl ?_
              obtain ⟨I31, J32, tg33, c52, h⟩ := h
              refine Runs.cl (cm := 24) (as := [.ref 59]) (rest := []) (r1 := (none, (zS I31 J32 tg33))) rfl (Nat.le_of_ble_eq_true rfl) c52 ?_
              refine Runs.as (c' := (105, [.ref 67], [], (zS I31 J32 tg33))) rfl ?_
              refine Runs.sN 4 (c' := (111, [.ref 67], [.int 0], (zS (up2 I31 67 7 0) J32 tg33))) rfl ?_
              subst h
              exact Runs.rt rfl
            · rw [if_neg c50] at h
              refine Runs.brF (P := (I 67 10) = 0) (a := 93) (b := 112) (L := [.ref 67]) (S := []) (z := (zS I J (some 59))) rfl c50 ?_
              refine Runs.sN 1 (c' := (113, [.ref 67], [.int 1], (zS I J (some 59)))) rfl ?_
              subst h
              exact Runs.rt rfl
          · rw [if_neg c49] at h
            refine Runs.brF (P := (I 67 12) = 20) (a := 86) (b := 112) (L := [.ref 67]) (S := []) (z := (zS I J (some 59))) rfl c49 ?_
            refine Runs.sN 1 (c' := (113, [.ref 67], [.int 1], (zS I J (some 59)))) rfl ?_
            subst h
            exact Runs.rt rfl
        · rw [if_neg c48] at h
          refine Runs.brF (P := (I 67 10) ≤ 0) (a := 77) (b := 45) (L := [.ref 67]) (S := []) (z := (zS I J (some 59))) rfl c48 ?_
          refine Runs.sN 2 (c' := (47, [.ref 67], [.int 1, .ref 67], (zS I J (some 59)))) rfl ?_
          obtain ⟨I34, J35, tg36, c53, h⟩ := h
          refine Runs.cl (cm := 88) (as := [.ref 67, .int 1]) (rest := []) (r1 := (none, (zS I34 J35 tg36))) rfl (Nat.le_of_ble_eq_true rfl) c53 ?_
          refine Runs.as (c' := (50, [.ref 67], [], (zS I34 J35 tg36))) rfl ?_
          refine Runs.sN 16 (c' := (76, [.ref 67], [.int 0], (zS (up2 (up2 (up2 I34 67 9 ((I34 67 9) - 1)) 67 10 ((I34 67 10) - 1)) 67 7 4) J35 tg36))) rfl ?_
          subst h
          exact Runs.rt rfl
      · rw [if_neg c47] at h
        refine Runs.brF (P := (I 67 12) = 19) (a := 38) (b := 77) (L := [.ref 67]) (S := []) (z := (zS I J (some 59))) rfl c47 ?_
        refine Runs.sN 3 (c' := (83, [.ref 67], [.int 20, .int (I 67 12)], (zS I J (some 59)))) rfl ?_
        by_cases c54 : (I 67 12) = 20
        · rw [if_pos c54] at h
          refine Runs.brT (P := (I 67 12) = 20) (a := 86) (b := 112) (L := [.ref 67]) (S := []) (z := (zS I J (some 59))) rfl c54 ?_
          refine Runs.sN 2 (c' := (90, [.ref 67], [.int (I 67 10)], (zS I J (some 59)))) rfl ?_
          by_cases c55 : (I 67 10) = 0
          · rw [if_pos c55] at h
            refine Runs.brT (P := (I 67 10) = 0) (a := 93) (b := 112) (L := [.ref 67]) (S := []) (z := (zS I J (some 59))) rfl c55 ?_
            refine Runs.sN 2 (c' := (95, [.ref 67], [.int 1, .ref 67], (zS I J (some 59)))) rfl ?_
            obtain ⟨I37, J38, tg39, c56, h⟩ := h
            refine Runs.cl (cm := 88) (as := [.ref 67, .int 1]) (rest := []) (r1 := (none, (zS I37 J38 tg39))) rfl (Nat.le_of_ble_eq_true rfl) c56 ?_
            refine Runs.as (c' := (98, [.ref 67], [], (zS I37 J38 tg39))) rfl ?_
            refine Runs.sN 2 (c' := (102, [.ref 67], [.ref 59], (zS I37 J38 tg39))) rfl ?_
            obtain ⟨I40, J41, tg42, c57, h⟩ := h
            refine Runs.cl (cm := 24) (as := [.ref 59]) (rest := []) (r1 := (none, (zS I40 J41 tg42))) rfl (Nat.le_of_ble_eq_true rfl) c57 ?_
            refine Runs.as (c' := (105, [.ref 67], [], (zS I40 J41 tg42))) rfl ?_
            refine Runs.sN 4 (c' := (111, [.ref 67], [.int 0], (zS (up2 I40 67 7 0) J41 tg42))) rfl ?_
            subst h
            exact Runs.rt rfl
          · rw [if_neg c55] at h
            refine Runs.brF (P := (I 67 10) = 0) (a := 93) (b := 112) (L := [.ref 67]) (S := []) (z := (zS I J (some 59))) rfl c55 ?_
            refine Runs.sN 1 (c' := (113, [.ref 67], [.int 1], (zS I J (some 59)))) rfl ?_
            subst h
            exact Runs.rt rfl
        · rw [if_neg c54] at h
          refine Runs.brF (P := (I 67 12) = 20) (a := 86) (b := 112) (L := [.ref 67]) (S := []) (z := (zS I J (some 59))) rfl c54 ?_
          refine Runs.sN 1 (c' := (113, [.ref 67], [.int 1], (zS I J (some 59)))) rfl ?_
          subst h
          exact Runs.rt rfl
-- X8_awaitRightSide 
theorem sg_86 {L d : Nat} {xs : Nat → Int32} (I : Nat → Nat → Int32) (J : Nat → Nat → Int64) (tg : Option Nat) {r : Option Value × SS} (h : (∃ (v11 : Int32) (I12 : Nat → Nat → Int32) (J13 : Nat → Nat → Int64) (tg14 : Option Nat), Runs (GW L xs) d 89 (0, [.int (I 67 12)], [], (zS I J tg)) ((some (.int v11)), (zS I12 J13 tg14)) ∧ ∃ (I15 : Nat → Nat → Int32) (J16 : Nat → Nat → Int64) (tg17 : Option Nat), Runs (GW L xs) d 88 (0, [.ref 67, .int v11], [], (zS I12 J13 tg14)) (none, (zS I15 J16 tg17)) ∧ ∃ (I18 : Nat → Nat → Int32) (J19 : Nat → Nat → Int64) (tg20 : Option Nat), Runs (GW L xs) d 87 (0, [.ref 67, .int (I15 67 12)], [], (zS I15 J16 tg17)) (none, (zS I18 J19 tg20)) ∧ r = (none, (zS I18 J19 tg20)))) : Runs (GW L xs) (d + 1) 86 (0, [.ref 67], [], (zS I J tg)) r := by
  refine Runs.sN 3 (c' := (5, [.ref 67], [.int (I 67 12), .ref 67], (zS I J tg))) rfl ?_
  obtain ⟨v11, I12, J13, tg14, c21, h⟩ := h
  refine Runs.cl (cm := 89) (as := [.int (I 67 12)]) (rest := [.ref 67]) (r1 := ((some (.int v11)), (zS I12 J13 tg14))) rfl (Nat.le_of_ble_eq_true rfl) c21 ?_
  refine Runs.as (c' := (8, [.ref 67], [.int v11, .ref 67], (zS I12 J13 tg14))) rfl ?_
  obtain ⟨I15, J16, tg17, c22, h⟩ := h
  refine Runs.cl (cm := 88) (as := [.ref 67, .int v11]) (rest := []) (r1 := (none, (zS I15 J16 tg17))) rfl (Nat.le_of_ble_eq_true rfl) c22 ?_
  refine Runs.as (c' := (11, [.ref 67], [], (zS I15 J16 tg17))) rfl ?_
  refine Runs.sN 3 (c' := (16, [.ref 67], [.int (I15 67 12), .ref 67], (zS I15 J16 tg17))) rfl ?_
  obtain ⟨I18, J19, tg20, c23, h⟩ := h
  refine Runs.cl (cm := 87) (as := [.ref 67, .int (I15 67 12)]) (rest := []) (r1 := (none, (zS I18 J19 tg20))) rfl (Nat.le_of_ble_eq_true rfl) c23 ?_
  refine Runs.as (c' := (19, [.ref 67], [], (zS I18 J19 tg20))) rfl ?_
  subst h
  exact Runs.rt rfl
-- X8_await 
theorem sg_87 {L d : Nat} {xs : Nat → Int32} (I : Nat → Nat → Int32) (J : Nat → Nat → Int64) (tg : Option Nat) (a1 : Int32) {r : Option Value × SS} (h : ((if 300 ≤ (I 67 9) then (r = (none, (zS I J tg))) else (¬ ((I 67 9) < 0 ∨ 300 ≤ (I 67 9).toNatClampNeg) ∧ r = (none, (zS (up2 (up2 I 69 ((I 67 9).toNatClampNeg) a1) 67 9 ((I 67 9) + 1)) J tg)))))) : Runs (GW L xs) d 87 (0, [.ref 67, .int a1], [], (zS I J tg)) r := by
  refine Runs.sN 3 (c' := (7, [.ref 67, .int a1], [.int 300, .int (I 67 9)], (zS I J tg))) rfl ?_
  by_cases c1 : 300 ≤ (I 67 9)
  · rw [if_pos c1] at h
    refine Runs.brT (P := 300 ≤ (I 67 9)) (a := 30) (b := 10) (L := [.ref 67, .int a1]) (S := []) (z := (zS I J tg)) rfl c1 ?_
    subst h
    exact Runs.rt rfl
  · rw [if_neg c1] at h
    refine Runs.brF (P := 300 ≤ (I 67 9)) (a := 30) (b := 10) (L := [.ref 67, .int a1]) (S := []) (z := (zS I J tg)) rfl c1 ?_
    refine Runs.sN 5 (c' := (19, [.ref 67, .int a1], [.int a1, .int (I 67 9), .ref 69], (zS I J tg))) rfl ?_
    obtain ⟨c2, h⟩ := h
    refine Runs.to (c' := (20, [.ref 67, .int a1], [], (zS (up2 I 69 ((I 67 9).toNatClampNeg) a1) J tg))) (Runs.ist rfl (show (69 : Nat) < 114 by decide) rfl c2) ?_
    refine Runs.sN 6 (c' := (30, [.ref 67, .int a1], [], (zS (up2 (up2 I 69 ((I 67 9).toNatClampNeg) a1) 67 9 ((I 67 9) + 1)) J tg))) rfl ?_
    subst h
    exact Runs.rt rfl
-- X8_release t47
theorem sg_88t47 {L d : Nat} {xs : Nat → Int32} (I : Nat → Nat → Int32) (J : Nat → Nat → Int64) (tg : Option Nat) (a1 : Int32) {r : Option Value × SS} (h : ((if (I 67 9) ≤ 0 then (r = (none, (zS I J (some 47)))) else (¬ (((I 67 9) - 1) < 0 ∨ 300 ≤ ((I 67 9) - 1).toNatClampNeg) ∧ ∃ (v22 : Int32) (I23 : Nat → Nat → Int32) (J24 : Nat → Nat → Int64) (tg25 : Option Nat), Runs (GW L xs) d 89 (0, [.int (I 69 (((I 67 9) - 1).toNatClampNeg))], [], (zS I J (some 47))) ((some (.int v22)), (zS I23 J24 tg25)) ∧ (if v22 < a1 then (r = (none, (zS I23 J24 tg25))) else (¬ (((I23 67 9) - 1) < 0 ∨ 300 ≤ ((I23 67 9) - 1).toNatClampNeg) ∧ ∃ (I26 : Nat → Nat → Int32) (J27 : Nat → Nat → Int64) (tg28 : Option Nat), Runs (GW L xs) d 25 (0, [.ref 47, .int (20000 + (I23 69 (((I23 67 9) - 1).toNatClampNeg)))], [], (zS I23 J24 tg25)) (none, (zS I26 J27 tg28)) ∧ Runs (GW L xs) (d + 1) 88 (0, [.ref 67, .int a1], [], (zS (up2 I26 67 9 ((I26 67 9) - 1)) J27 tg28)) r)))))) : Runs (GW L xs) (d + 1) 88 (0, [.ref 67, .int a1], [], (zS I J (some 47))) r := by
  refine Runs.sN 2 (c' := (4, [.ref 67, .int a1], [.int (I 67 9)], (zS I J (some 47)))) rfl ?_
  by_cases c29 : (I 67 9) ≤ 0
  · rw [if_pos c29] at h
    refine Runs.brT (P := (I 67 9) ≤ 0) (a := 60) (b := 7) (L := [.ref 67, .int a1]) (S := []) (z := (zS I J (some 47))) rfl c29 ?_
    subst h
    exact Runs.rt rfl
  · rw [if_neg c29] at h
    refine Runs.brF (P := (I 67 9) ≤ 0) (a := 60) (b := 7) (L := [.ref 67, .int a1]) (S := []) (z := (zS I J (some 47))) rfl c29 ?_
    refine Runs.sN 6 (c' := (17, [.ref 67, .int a1], [.int ((I 67 9) - 1), .ref 69], (zS I J (some 47)))) rfl ?_
    obtain ⟨c30, h⟩ := h
    refine Runs.to (c' := (18, [.ref 67, .int a1], [.int (I 69 (((I 67 9) - 1).toNatClampNeg))], (zS I J (some 47)))) (Runs.ild rfl (show (69 : Nat) < 114 by decide) rfl c30) ?_
    obtain ⟨v22, I23, J24, tg25, c31, h⟩ := h
    refine Runs.cl (cm := 89) (as := [.int (I 69 (((I 67 9) - 1).toNatClampNeg))]) (rest := []) (r1 := ((some (.int v22)), (zS I23 J24 tg25))) rfl (Nat.le_of_ble_eq_true rfl) c31 ?_
    refine Runs.as (c' := (21, [.ref 67, .int a1], [.int v22], (zS I23 J24 tg25))) rfl ?_
    refine Runs.sN 1 (c' := (22, [.ref 67, .int a1], [.int a1, .int v22], (zS I23 J24 tg25))) rfl ?_
    by_cases c32 : v22 < a1
    · rw [if_pos c32] at h
      refine Runs.brT (P := v22 < a1) (a := 60) (b := 25) (L := [.ref 67, .int a1]) (S := []) (z := (zS I23 J24 tg25)) rfl c32 ?_
      subst h
      exact Runs.rt rfl
    · rw [if_neg c32] at h
      refine Runs.brF (P := v22 < a1) (a := 60) (b := 25) (L := [.ref 67, .int a1]) (S := []) (z := (zS I23 J24 tg25)) rfl c32 ?_
      refine Runs.sN 9 (c' := (42, [.ref 67, .int a1], [.int ((I23 67 9) - 1), .ref 69, .int 20000, .ref 47], (zS I23 J24 tg25))) rfl ?_
      obtain ⟨c33, h⟩ := h
      refine Runs.to (c' := (43, [.ref 67, .int a1], [.int (I23 69 (((I23 67 9) - 1).toNatClampNeg)), .int 20000, .ref 47], (zS I23 J24 tg25))) (Runs.ild rfl (show (69 : Nat) < 114 by decide) rfl c33) ?_
      refine Runs.sN 1 (c' := (44, [.ref 67, .int a1], [.int (20000 + (I23 69 (((I23 67 9) - 1).toNatClampNeg))), .ref 47], (zS I23 J24 tg25))) rfl ?_
      obtain ⟨I26, J27, tg28, c34, h⟩ := h
      refine Runs.cl (cm := 25) (as := [.ref 47, .int (20000 + (I23 69 (((I23 67 9) - 1).toNatClampNeg)))]) (rest := []) (r1 := (none, (zS I26 J27 tg28))) rfl (Nat.le_of_ble_eq_true rfl) c34 ?_
      refine Runs.as (c' := (47, [.ref 67, .int a1], [], (zS I26 J27 tg28))) rfl ?_
      refine Runs.sN 7 (c' := (0, [.ref 67, .int a1], [], (zS (up2 I26 67 9 ((I26 67 9) - 1)) J27 tg28))) rfl ?_
      exact h
theorem sg_88t47_0 {L d : Nat} {xs : Nat → Int32} (I : Nat → Nat → Int32) (J : Nat → Nat → Int64) (tg : Option Nat) (x1 : Int32) {r : Option Value × SS} (h : ((if (I 67 9) ≤ 0 then (r = (none, (zS I J (some 47)))) else (¬ (((I 67 9) - 1) < 0 ∨ 300 ≤ ((I 67 9) - 1).toNatClampNeg) ∧ ∃ (v1 : Int32) (I2 : Nat → Nat → Int32) (J3 : Nat → Nat → Int64) (tg4 : Option Nat), Runs (GW L xs) d 89 (0, [.int (I 69 (((I 67 9) - 1).toNatClampNeg))], [], (zS I J (some 47))) ((some (.int v1)), (zS I2 J3 tg4)) ∧ (if v1 < x1 then (r = (none, (zS I2 J3 tg4))) else (¬ (((I2 67 9) - 1) < 0 ∨ 300 ≤ ((I2 67 9) - 1).toNatClampNeg) ∧ ∃ (I5 : Nat → Nat → Int32) (J6 : Nat → Nat → Int64) (tg7 : Option Nat), Runs (GW L xs) d 25 (0, [.ref 47, .int (20000 + (I2 69 (((I2 67 9) - 1).toNatClampNeg)))], [], (zS I2 J3 tg4)) (none, (zS I5 J6 tg7)) ∧ Runs (GW L xs) (d + 1) 88 (0, [.ref 67, .int x1], [], (zS (up2 I5 67 9 ((I5 67 9) - 1)) J6 tg7)) r)))))) : Runs (GW L xs) (d + 1) 88 (0, [.ref 67, .int x1], [], (zS I J (some 47))) r := by
  refine Runs.sN 2 (c' := (4, [.ref 67, .int x1], [.int (I 67 9)], (zS I J (some 47)))) rfl ?_
  by_cases c8 : (I 67 9) ≤ 0
  · rw [if_pos c8] at h
    refine Runs.brT (P := (I 67 9) ≤ 0) (a := 60) (b := 7) (L := [.ref 67, .int x1]) (S := []) (z := (zS I J (some 47))) rfl c8 ?_
    subst h
    exact Runs.rt rfl
  · rw [if_neg c8] at h
    refine Runs.brF (P := (I 67 9) ≤ 0) (a := 60) (b := 7) (L := [.ref 67, .int x1]) (S := []) (z := (zS I J (some 47))) rfl c8 ?_
    refine Runs.sN 6 (c' := (17, [.ref 67, .int x1], [.int ((I 67 9) - 1), .ref 69], (zS I J (some 47)))) rfl ?_
    obtain ⟨c9, h⟩ := h
    refine Runs.to (c' := (18, [.ref 67, .int x1], [.int (I 69 (((I 67 9) - 1).toNatClampNeg))], (zS I J (some 47)))) (Runs.ild rfl (show (69 : Nat) < 114 by decide) rfl c9) ?_
    obtain ⟨v1, I2, J3, tg4, c10, h⟩ := h
    refine Runs.cl (cm := 89) (as := [.int (I 69 (((I 67 9) - 1).toNatClampNeg))]) (rest := []) (r1 := ((some (.int v1)), (zS I2 J3 tg4))) rfl (Nat.le_of_ble_eq_true rfl) c10 ?_
    refine Runs.as (c' := (21, [.ref 67, .int x1], [.int v1], (zS I2 J3 tg4))) rfl ?_
    refine Runs.sN 1 (c' := (22, [.ref 67, .int x1], [.int x1, .int v1], (zS I2 J3 tg4))) rfl ?_
    by_cases c11 : v1 < x1
    · rw [if_pos c11] at h
      refine Runs.brT (P := v1 < x1) (a := 60) (b := 25) (L := [.ref 67, .int x1]) (S := []) (z := (zS I2 J3 tg4)) rfl c11 ?_
      subst h
      exact Runs.rt rfl
    · rw [if_neg c11] at h
      refine Runs.brF (P := v1 < x1) (a := 60) (b := 25) (L := [.ref 67, .int x1]) (S := []) (z := (zS I2 J3 tg4)) rfl c11 ?_
      refine Runs.sN 9 (c' := (42, [.ref 67, .int x1], [.int ((I2 67 9) - 1), .ref 69, .int 20000, .ref 47], (zS I2 J3 tg4))) rfl ?_
      obtain ⟨c12, h⟩ := h
      refine Runs.to (c' := (43, [.ref 67, .int x1], [.int (I2 69 (((I2 67 9) - 1).toNatClampNeg)), .int 20000, .ref 47], (zS I2 J3 tg4))) (Runs.ild rfl (show (69 : Nat) < 114 by decide) rfl c12) ?_
      refine Runs.sN 1 (c' := (44, [.ref 67, .int x1], [.int (20000 + (I2 69 (((I2 67 9) - 1).toNatClampNeg))), .ref 47], (zS I2 J3 tg4))) rfl ?_
      obtain ⟨I5, J6, tg7, c13, h⟩ := h
      refine Runs.cl (cm := 25) (as := [.ref 47, .int (20000 + (I2 69 (((I2 67 9) - 1).toNatClampNeg)))]) (rest := []) (r1 := (none, (zS I5 J6 tg7))) rfl (Nat.le_of_ble_eq_true rfl) c13 ?_
      refine Runs.as (c' := (47, [.ref 67, .int x1], [], (zS I5 J6 tg7))) rfl ?_
      refine Runs.sN 7 (c' := (0, [.ref 67, .int x1], [], (zS (up2 I5 67 9 ((I5 67 9) - 1)) J6 tg7))) rfl ?_
      exact h
-- X8_release t51
theorem sg_88t51 {L d : Nat} {xs : Nat → Int32} (I : Nat → Nat → Int32) (J : Nat → Nat → Int64) (tg : Option Nat) (a1 : Int32) {r : Option Value × SS} (h : ((if (I 67 9) ≤ 0 then (r = (none, (zS I J (some 51)))) else (¬ (((I 67 9) - 1) < 0 ∨ 300 ≤ ((I 67 9) - 1).toNatClampNeg) ∧ ∃ (v22 : Int32) (I23 : Nat → Nat → Int32) (J24 : Nat → Nat → Int64) (tg25 : Option Nat), Runs (GW L xs) d 89 (0, [.int (I 69 (((I 67 9) - 1).toNatClampNeg))], [], (zS I J (some 51))) ((some (.int v22)), (zS I23 J24 tg25)) ∧ (if v22 < a1 then (r = (none, (zS I23 J24 tg25))) else (¬ (((I23 67 9) - 1) < 0 ∨ 300 ≤ ((I23 67 9) - 1).toNatClampNeg) ∧ ∃ (I26 : Nat → Nat → Int32) (J27 : Nat → Nat → Int64) (tg28 : Option Nat), Runs (GW L xs) d 25 (0, [.ref 51, .int (20000 + (I23 69 (((I23 67 9) - 1).toNatClampNeg)))], [], (zS I23 J24 tg25)) (none, (zS I26 J27 tg28)) ∧ Runs (GW L xs) (d + 1) 88 (0, [.ref 67, .int a1], [], (zS (up2 I26 67 9 ((I26 67 9) - 1)) J27 tg28)) r)))))) : Runs (GW L xs) (d + 1) 88 (0, [.ref 67, .int a1], [], (zS I J (some 51))) r := by
  refine Runs.sN 2 (c' := (4, [.ref 67, .int a1], [.int (I 67 9)], (zS I J (some 51)))) rfl ?_
  by_cases c29 : (I 67 9) ≤ 0
  · rw [if_pos c29] at h
    refine Runs.brT (P := (I 67 9) ≤ 0) (a := 60) (b := 7) (L := [.ref 67, .int a1]) (S := []) (z := (zS I J (some 51))) rfl c29 ?_
    subst h
    exact Runs.rt rfl
  · rw [if_neg c29] at h
    refine Runs.brF (P := (I 67 9) ≤ 0) (a := 60) (b := 7) (L := [.ref 67, .int a1]) (S := []) (z := (zS I J (some 51))) rfl c29 ?_
    refine Runs.sN 6 (c' := (17, [.ref 67, .int a1], [.int ((I 67 9) - 1), .ref 69], (zS I J (some 51)))) rfl ?_
    obtain ⟨c30, h⟩ := h
    refine Runs.to (c' := (18, [.ref 67, .int a1], [.int (I 69 (((I 67 9) - 1).toNatClampNeg))], (zS I J (some 51)))) (Runs.ild rfl (show (69 : Nat) < 114 by decide) rfl c30) ?_
    obtain ⟨v22, I23, J24, tg25, c31, h⟩ := h
    refine Runs.cl (cm := 89) (as := [.int (I 69 (((I 67 9) - 1).toNatClampNeg))]) (rest := []) (r1 := ((some (.int v22)), (zS I23 J24 tg25))) rfl (Nat.le_of_ble_eq_true rfl) c31 ?_
    refine Runs.as (c' := (21, [.ref 67, .int a1], [.int v22], (zS I23 J24 tg25))) rfl ?_
    refine Runs.sN 1 (c' := (22, [.ref 67, .int a1], [.int a1, .int v22], (zS I23 J24 tg25))) rfl ?_
    by_cases c32 : v22 < a1
    · rw [if_pos c32] at h
      refine Runs.brT (P := v22 < a1) (a := 60) (b := 25) (L := [.ref 67, .int a1]) (S := []) (z := (zS I23 J24 tg25)) rfl c32 ?_
      subst h
      exact Runs.rt rfl
    · rw [if_neg c32] at h
      refine Runs.brF (P := v22 < a1) (a := 60) (b := 25) (L := [.ref 67, .int a1]) (S := []) (z := (zS I23 J24 tg25)) rfl c32 ?_
      refine Runs.sN 9 (c' := (42, [.ref 67, .int a1], [.int ((I23 67 9) - 1), .ref 69, .int 20000, .ref 51], (zS I23 J24 tg25))) rfl ?_
      obtain ⟨c33, h⟩ := h
      refine Runs.to (c' := (43, [.ref 67, .int a1], [.int (I23 69 (((I23 67 9) - 1).toNatClampNeg)), .int 20000, .ref 51], (zS I23 J24 tg25))) (Runs.ild rfl (show (69 : Nat) < 114 by decide) rfl c33) ?_
      refine Runs.sN 1 (c' := (44, [.ref 67, .int a1], [.int (20000 + (I23 69 (((I23 67 9) - 1).toNatClampNeg))), .ref 51], (zS I23 J24 tg25))) rfl ?_
      obtain ⟨I26, J27, tg28, c34, h⟩ := h
      refine Runs.cl (cm := 25) (as := [.ref 51, .int (20000 + (I23 69 (((I23 67 9) - 1).toNatClampNeg)))]) (rest := []) (r1 := (none, (zS I26 J27 tg28))) rfl (Nat.le_of_ble_eq_true rfl) c34 ?_
      refine Runs.as (c' := (47, [.ref 67, .int a1], [], (zS I26 J27 tg28))) rfl ?_
      refine Runs.sN 7 (c' := (0, [.ref 67, .int a1], [], (zS (up2 I26 67 9 ((I26 67 9) - 1)) J27 tg28))) rfl ?_
      exact h
theorem sg_88t51_0 {L d : Nat} {xs : Nat → Int32} (I : Nat → Nat → Int32) (J : Nat → Nat → Int64) (tg : Option Nat) (x1 : Int32) {r : Option Value × SS} (h : ((if (I 67 9) ≤ 0 then (r = (none, (zS I J (some 51)))) else (¬ (((I 67 9) - 1) < 0 ∨ 300 ≤ ((I 67 9) - 1).toNatClampNeg) ∧ ∃ (v1 : Int32) (I2 : Nat → Nat → Int32) (J3 : Nat → Nat → Int64) (tg4 : Option Nat), Runs (GW L xs) d 89 (0, [.int (I 69 (((I 67 9) - 1).toNatClampNeg))], [], (zS I J (some 51))) ((some (.int v1)), (zS I2 J3 tg4)) ∧ (if v1 < x1 then (r = (none, (zS I2 J3 tg4))) else (¬ (((I2 67 9) - 1) < 0 ∨ 300 ≤ ((I2 67 9) - 1).toNatClampNeg) ∧ ∃ (I5 : Nat → Nat → Int32) (J6 : Nat → Nat → Int64) (tg7 : Option Nat), Runs (GW L xs) d 25 (0, [.ref 51, .int (20000 + (I2 69 (((I2 67 9) - 1).toNatClampNeg)))], [], (zS I2 J3 tg4)) (none, (zS I5 J6 tg7)) ∧ Runs (GW L xs) (d + 1) 88 (0, [.ref 67, .int x1], [], (zS (up2 I5 67 9 ((I5 67 9) - 1)) J6 tg7)) r)))))) : Runs (GW L xs) (d + 1) 88 (0, [.ref 67, .int x1], [], (zS I J (some 51))) r := by
  refine Runs.sN 2 (c' := (4, [.ref 67, .int x1], [.int (I 67 9)], (zS I J (some 51)))) rfl ?_
  by_cases c8 : (I 67 9) ≤ 0
  · rw [if_pos c8] at h
    refine Runs.brT (P := (I 67 9) ≤ 0) (a := 60) (b := 7) (L := [.ref 67, .int x1]) (S := []) (z := (zS I J (some 51))) rfl c8 ?_
    subst h
    exact Runs.rt rfl
  · rw [if_neg c8] at h
    refine Runs.brF (P := (I 67 9) ≤ 0) (a := 60) (b := 7) (L := [.ref 67, .int x1]) (S := []) (z := (zS I J (some 51))) rfl c8 ?_
    refine Runs.sN 6 (c' := (17, [.ref 67, .int x1], [.int ((I 67 9) - 1), .ref 69], (zS I J (some 51)))) rfl ?_
    obtain ⟨c9, h⟩ := h
    refine Runs.to (c' := (18, [.ref 67, .int x1], [.int (I 69 (((I 67 9) - 1).toNatClampNeg))], (zS I J (some 51)))) (Runs.ild rfl (show (69 : Nat) < 114 by decide) rfl c9) ?_
    obtain ⟨v1, I2, J3, tg4, c10, h⟩ := h
    refine Runs.cl (cm := 89) (as := [.int (I 69 (((I 67 9) - 1).toNatClampNeg))]) (rest := []) (r1 := ((some (.int v1)), (zS I2 J3 tg4))) rfl (Nat.le_of_ble_eq_true rfl) c10 ?_
    refine Runs.as (c' := (21, [.ref 67, .int x1], [.int v1], (zS I2 J3 tg4))) rfl ?_
    refine Runs.sN 1 (c' := (22, [.ref 67, .int x1], [.int x1, .int v1], (zS I2 J3 tg4))) rfl ?_
    by_cases c11 : v1 < x1
    · rw [if_pos c11] at h
      refine Runs.brT (P := v1 < x1) (a := 60) (b := 25) (L := [.ref 67, .int x1]) (S := []) (z := (zS I2 J3 tg4)) rfl c11 ?_
      subst h
      exact Runs.rt rfl
    · rw [if_neg c11] at h
      refine Runs.brF (P := v1 < x1) (a := 60) (b := 25) (L := [.ref 67, .int x1]) (S := []) (z := (zS I2 J3 tg4)) rfl c11 ?_
      refine Runs.sN 9 (c' := (42, [.ref 67, .int x1], [.int ((I2 67 9) - 1), .ref 69, .int 20000, .ref 51], (zS I2 J3 tg4))) rfl ?_
      obtain ⟨c12, h⟩ := h
      refine Runs.to (c' := (43, [.ref 67, .int x1], [.int (I2 69 (((I2 67 9) - 1).toNatClampNeg)), .int 20000, .ref 51], (zS I2 J3 tg4))) (Runs.ild rfl (show (69 : Nat) < 114 by decide) rfl c12) ?_
      refine Runs.sN 1 (c' := (44, [.ref 67, .int x1], [.int (20000 + (I2 69 (((I2 67 9) - 1).toNatClampNeg))), .ref 51], (zS I2 J3 tg4))) rfl ?_
      obtain ⟨I5, J6, tg7, c13, h⟩ := h
      refine Runs.cl (cm := 25) (as := [.ref 51, .int (20000 + (I2 69 (((I2 67 9) - 1).toNatClampNeg)))]) (rest := []) (r1 := (none, (zS I5 J6 tg7))) rfl (Nat.le_of_ble_eq_true rfl) c13 ?_
      refine Runs.as (c' := (47, [.ref 67, .int x1], [], (zS I5 J6 tg7))) rfl ?_
      refine Runs.sN 7 (c' := (0, [.ref 67, .int x1], [], (zS (up2 I5 67 9 ((I5 67 9) - 1)) J6 tg7))) rfl ?_
      exact h
