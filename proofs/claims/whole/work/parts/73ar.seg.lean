-- X12_best 
theorem sg_287 {L d : Nat} {xs : Nat → Int32} (I : Nat → Nat → Int32) (J : Nat → Nat → Int64) (tg : Option Nat) (a1 : Int32) (a2 : Int32) (a3 : Int32) {r : Option Value × SS} (h : (∃ (v22 : Int32) (I23 : Nat → Nat → Int32) (J24 : Nat → Nat → Int64), Runs (GW L xs) d 260 (0, [.ref 93, .int a1], [], (zS I J tg)) ((some (.int v22)), (zS I23 J24 tg)) ∧ (if v22 = 0 then (r = (some (.int (-1)), (zS I23 J24 tg))) else (∃ (v25 : Int32) (I26 : Nat → Nat → Int32) (J27 : Nat → Nat → Int64), Runs (GW L xs) d 182 (0, [.int a2], [], (zS I23 J24 tg)) ((some (.int v25)), (zS I26 J27 tg)) ∧ (if v25 = 0 then (r = (some (.int (-1)), (zS I26 J27 tg))) else (∃ (v28 : Int32) (I29 : Nat → Nat → Int32) (J30 : Nat → Nat → Int64), Runs (GW L xs) d 177 (0, [.int a3, .int 0, .int (I26 94 2)], [], (zS I26 J27 tg)) ((some (.int v28)), (zS I29 J30 tg)) ∧ (if v28 = 0 then (r = (some (.int (-1)), (zS I29 J30 tg))) else (Runs (GW L xs) (d + 1) 287 (40, [.ref 93, .int a1, .int a2, .int a3, .int (-1), .int 0, .int 0, vU], [], (zS I29 J30 tg)) r)))))))) : Runs (GW L xs) (d + 1) 287 (0, [.ref 93, .int a1, .int a2, .int a3, vU, vU, vU, vU], [], (zS I J tg)) r := by
  refine Runs.sN 2 (c' := (2, [.ref 93, .int a1, .int a2, .int a3, vU, vU, vU, vU], [.int a1, .ref 93], (zS I J tg))) rfl ?_
  obtain ⟨v22, I23, J24, c31, h⟩ := h
  refine Runs.cl (cm := 260) (as := [.ref 93, .int a1]) (rest := []) (r1 := ((some (.int v22)), (zS I23 J24 tg))) rfl (Nat.le_of_ble_eq_true rfl) c31 ?_
  refine Runs.as (c' := (5, [.ref 93, .int a1, .int a2, .int a3, vU, vU, vU, vU], [.int v22], (zS I23 J24 tg))) rfl ?_
  by_cases c32 : v22 = 0
  · rw [if_pos c32] at h
    refine Runs.brT (P := v22 = 0) (a := 29) (b := 8) (L := [.ref 93, .int a1, .int a2, .int a3, vU, vU, vU, vU]) (S := []) (z := (zS I23 J24 tg)) rfl c32 ?_
    refine Runs.sN 1 (c' := (30, [.ref 93, .int a1, .int a2, .int a3, vU, vU, vU, vU], [.int (-1)], (zS I23 J24 tg))) rfl ?_
    subst h
    exact Runs.rt rfl
  · rw [if_neg c32] at h
    refine Runs.brF (P := v22 = 0) (a := 29) (b := 8) (L := [.ref 93, .int a1, .int a2, .int a3, vU, vU, vU, vU]) (S := []) (z := (zS I23 J24 tg)) rfl c32 ?_
    refine Runs.sN 1 (c' := (9, [.ref 93, .int a1, .int a2, .int a3, vU, vU, vU, vU], [.int a2], (zS I23 J24 tg))) rfl ?_
    obtain ⟨v25, I26, J27, c33, h⟩ := h
    refine Runs.cl (cm := 182) (as := [.int a2]) (rest := []) (r1 := ((some (.int v25)), (zS I26 J27 tg))) rfl (Nat.le_of_ble_eq_true rfl) c33 ?_
    refine Runs.as (c' := (12, [.ref 93, .int a1, .int a2, .int a3, vU, vU, vU, vU], [.int v25], (zS I26 J27 tg))) rfl ?_
    by_cases c34 : v25 = 0
    · rw [if_pos c34] at h
      refine Runs.brT (P := v25 = 0) (a := 29) (b := 15) (L := [.ref 93, .int a1, .int a2, .int a3, vU, vU, vU, vU]) (S := []) (z := (zS I26 J27 tg)) rfl c34 ?_
      refine Runs.sN 1 (c' := (30, [.ref 93, .int a1, .int a2, .int a3, vU, vU, vU, vU], [.int (-1)], (zS I26 J27 tg))) rfl ?_
      subst h
      exact Runs.rt rfl
    · rw [if_neg c34] at h
      refine Runs.brF (P := v25 = 0) (a := 29) (b := 15) (L := [.ref 93, .int a1, .int a2, .int a3, vU, vU, vU, vU]) (S := []) (z := (zS I26 J27 tg)) rfl c34 ?_
      refine Runs.sN 6 (c' := (23, [.ref 93, .int a1, .int a2, .int a3, vU, vU, vU, vU], [.int (I26 94 2), .int 0, .int a3], (zS I26 J27 tg))) rfl ?_
      obtain ⟨v28, I29, J30, c35, h⟩ := h
      refine Runs.cl (cm := 177) (as := [.int a3, .int 0, .int (I26 94 2)]) (rest := []) (r1 := ((some (.int v28)), (zS I29 J30 tg))) rfl (Nat.le_of_ble_eq_true rfl) c35 ?_
      refine Runs.as (c' := (26, [.ref 93, .int a1, .int a2, .int a3, vU, vU, vU, vU], [.int v28], (zS I29 J30 tg))) rfl ?_
      by_cases c36 : v28 = 0
      · rw [if_pos c36] at h
        refine Runs.brT (P := v28 = 0) (a := 29) (b := 31) (L := [.ref 93, .int a1, .int a2, .int a3, vU, vU, vU, vU]) (S := []) (z := (zS I29 J30 tg)) rfl c36 ?_
        refine Runs.sN 1 (c' := (30, [.ref 93, .int a1, .int a2, .int a3, vU, vU, vU, vU], [.int (-1)], (zS I29 J30 tg))) rfl ?_
        subst h
        exact Runs.rt rfl
      · rw [if_neg c36] at h
        refine Runs.brF (P := v28 = 0) (a := 29) (b := 31) (L := [.ref 93, .int a1, .int a2, .int a3, vU, vU, vU, vU]) (S := []) (z := (zS I29 J30 tg)) rfl c36 ?_
        refine Runs.sN 6 (c' := (40, [.ref 93, .int a1, .int a2, .int a3, .int (-1), .int 0, .int 0, vU], [], (zS I29 J30 tg))) rfl ?_
        exact h
theorem sg_287_40 {L d : Nat} {xs : Nat → Int32} (I : Nat → Nat → Int32) (J : Nat → Nat → Int64) (tg : Option Nat) (x1 : Int32) (x2 : Int32) (x3 : Int32) (x4 : Int32) (x5 : Int32) (x6 : Int32) {r : Option Value × SS} (h : ((if 12 ≤ x6 then (r = (some (.int x4), (zS I J tg))) else ((if ((x1 >>> (x6 &&& 31)) &&& 1) = 0 then (Runs (GW L xs) (d + 1) 287 (40, [.ref 93, .int x1, .int x2, .int x3, .int x4, .int x5, .int (x6 + 1), vU], [], (zS I J tg)) r) else (∃ (v1 : Int32) (I2 : Nat → Nat → Int32) (J3 : Nat → Nat → Int64), Runs (GW L xs) d 285 (0, [.ref 93, .int x6, .int x2, .int x3, vU, vU, vU, vU], [], (zS I J tg)) ((some (.int v1)), (zS I2 J3 tg)) ∧ (if x4 < 0 then (Runs (GW L xs) (d + 1) 287 (40, [.ref 93, .int x1, .int x2, .int x3, .int x6, .int v1, .int (x6 + 1), vU], [], (zS I2 J3 tg)) r) else ((if v1 < x5 then (Runs (GW L xs) (d + 1) 287 (40, [.ref 93, .int x1, .int x2, .int x3, .int x6, .int v1, .int (x6 + 1), vU], [], (zS I2 J3 tg)) r) else (Runs (GW L xs) (d + 1) 287 (40, [.ref 93, .int x1, .int x2, .int x3, .int x4, .int x5, .int (x6 + 1), vU], [], (zS I2 J3 tg)) r)))))))))) : Runs (GW L xs) (d + 1) 287 (40, [.ref 93, .int x1, .int x2, .int x3, .int x4, .int x5, .int x6, vU], [], (zS I J tg)) r := by
  refine Runs.sN 2 (c' := (44, [.ref 93, .int x1, .int x2, .int x3, .int x4, .int x5, .int x6, vU], [.int 12, .int x6], (zS I J tg))) rfl ?_
  by_cases c4 : 12 ≤ x6
  · rw [if_pos c4] at h
    refine Runs.brT (P := 12 ≤ x6) (a := 98) (b := 47) (L := [.ref 93, .int x1, .int x2, .int x3, .int x4, .int x5, .int x6, vU]) (S := []) (z := (zS I J tg)) rfl c4 ?_
    refine Runs.sN 1 (c' := (100, [.ref 93, .int x1, .int x2, .int x3, .int x4, .int x5, .int x6, vU], [.int x4], (zS I J tg))) rfl ?_
    subst h
    exact Runs.rt rfl
  · rw [if_neg c4] at h
    refine Runs.brF (P := 12 ≤ x6) (a := 98) (b := 47) (L := [.ref 93, .int x1, .int x2, .int x3, .int x4, .int x5, .int x6, vU]) (S := []) (z := (zS I J tg)) rfl c4 ?_
    refine Runs.sN 5 (c' := (53, [.ref 93, .int x1, .int x2, .int x3, .int x4, .int x5, .int x6, vU], [.int ((x1 >>> (x6 &&& 31)) &&& 1)], (zS I J tg))) rfl ?_
    by_cases c5 : ((x1 >>> (x6 &&& 31)) &&& 1) = 0
    · rw [if_pos c5] at h
      refine Runs.brT (P := ((x1 >>> (x6 &&& 31)) &&& 1) = 0) (a := 56) (b := 59) (L := [.ref 93, .int x1, .int x2, .int x3, .int x4, .int x5, .int x6, vU]) (S := []) (z := (zS I J tg)) rfl c5 ?_
      refine Runs.sN 3 (c' := (40, [.ref 93, .int x1, .int x2, .int x3, .int x4, .int x5, .int (x6 + 1), vU], [], (zS I J tg))) rfl ?_
      exact h
    · rw [if_neg c5] at h
      refine Runs.brF (P := ((x1 >>> (x6 &&& 31)) &&& 1) = 0) (a := 56) (b := 59) (L := [.ref 93, .int x1, .int x2, .int x3, .int x4, .int x5, .int x6, vU]) (S := []) (z := (zS I J tg)) rfl c5 ?_
      refine Runs.sN 4 (c' := (64, [.ref 93, .int x1, .int x2, .int x3, .int x4, .int x5, .int x6, vU], [.int x3, .int x2, .int x6, .ref 93], (zS I J tg))) rfl ?_
      obtain ⟨v1, I2, J3, c6, h⟩ := h
      refine Runs.cl (cm := 285) (as := [.ref 93, .int x6, .int x2, .int x3]) (rest := []) (r1 := ((some (.int v1)), (zS I2 J3 tg))) rfl (Nat.le_of_ble_eq_true rfl) c6 ?_
      refine Runs.as (c' := (67, [.ref 93, .int x1, .int x2, .int x3, .int x4, .int x5, .int x6, vU], [.int v1], (zS I2 J3 tg))) rfl ?_
      refine Runs.sN 2 (c' := (71, [.ref 93, .int x1, .int x2, .int x3, .int x4, .int x5, .int x6, .int v1], [.int x4], (zS I2 J3 tg))) rfl ?_
      by_cases c7 : x4 < 0
      · rw [if_pos c7] at h
        refine Runs.brT (P := x4 < 0) (a := 84) (b := 74) (L := [.ref 93, .int x1, .int x2, .int x3, .int x4, .int x5, .int x6, .int v1]) (S := []) (z := (zS I2 J3 tg)) rfl c7 ?_
        refine Runs.sN 6 (c' := (40, [.ref 93, .int x1, .int x2, .int x3, .int x6, .int v1, .int (x6 + 1), .int v1], [], (zS I2 J3 tg))) rfl ?_
        exact Runs.weak (L := [.ref 93, .int x1, .int x2, .int x3, .int x6, .int v1, .int (x6 + 1), vU]) (Lle.k (Lle.k (Lle.k (Lle.k (Lle.k (Lle.k (Lle.k (Lle.u Lle.n)))))))) h
      · rw [if_neg c7] at h
        refine Runs.brF (P := x4 < 0) (a := 84) (b := 74) (L := [.ref 93, .int x1, .int x2, .int x3, .int x4, .int x5, .int x6, .int v1]) (S := []) (z := (zS I2 J3 tg)) rfl c7 ?_
        refine Runs.sN 2 (c' := (78, [.ref 93, .int x1, .int x2, .int x3, .int x4, .int x5, .int x6, .int v1], [.int x5, .int v1], (zS I2 J3 tg))) rfl ?_
        by_cases c8 : v1 < x5
        · rw [if_pos c8] at h
          refine Runs.brT (P := v1 < x5) (a := 84) (b := 81) (L := [.ref 93, .int x1, .int x2, .int x3, .int x4, .int x5, .int x6, .int v1]) (S := []) (z := (zS I2 J3 tg)) rfl c8 ?_
          refine Runs.sN 6 (c' := (40, [.ref 93, .int x1, .int x2, .int x3, .int x6, .int v1, .int (x6 + 1), .int v1], [], (zS I2 J3 tg))) rfl ?_
          exact Runs.weak (L := [.ref 93, .int x1, .int x2, .int x3, .int x6, .int v1, .int (x6 + 1), vU]) (Lle.k (Lle.k (Lle.k (Lle.k (Lle.k (Lle.k (Lle.k (Lle.u Lle.n)))))))) h
        · rw [if_neg c8] at h
          refine Runs.brF (P := v1 < x5) (a := 84) (b := 81) (L := [.ref 93, .int x1, .int x2, .int x3, .int x4, .int x5, .int x6, .int v1]) (S := []) (z := (zS I2 J3 tg)) rfl c8 ?_
          refine Runs.sN 3 (c' := (40, [.ref 93, .int x1, .int x2, .int x3, .int x4, .int x5, .int (x6 + 1), .int v1], [], (zS I2 J3 tg))) rfl ?_
          exact Runs.weak (L := [.ref 93, .int x1, .int x2, .int x3, .int x4, .int x5, .int (x6 + 1), vU]) (Lle.k (Lle.k (Lle.k (Lle.k (Lle.k (Lle.k (Lle.k (Lle.u Lle.n)))))))) h
-- X12_days 
theorem sg_288 {L d : Nat} {xs : Nat → Int32} (I : Nat → Nat → Int32) (J : Nat → Nat → Int64) (tg : Option Nat) (a1 : Int32) {r : Option Value × SS} (h : (∃ (v4 : Int32) (I5 : Nat → Nat → Int32) (J6 : Nat → Nat → Int64), Runs (GW L xs) d 177 (0, [.int a1, .int 1, .int 99], [], (zS I J tg)) ((some (.int v4)), (zS I5 J6 tg)) ∧ (if v4 = 0 then (r = (some (.int (-1)), (zS I5 J6 tg))) else ((if ((I5 94 0) + a1) ≤ 999 then (r = (some (.int ((I5 94 0) + a1)), (zS (up2 I5 94 0 ((I5 94 0) + a1)) J6 tg))) else (r = (some (.int (-1)), (zS I5 J6 tg)))))))) : Runs (GW L xs) (d + 1) 288 (0, [.ref 93, .int a1], [], (zS I J tg)) r := by
  refine Runs.sN 3 (c' := (4, [.ref 93, .int a1], [.int 99, .int 1, .int a1], (zS I J tg))) rfl ?_
  obtain ⟨v4, I5, J6, c7, h⟩ := h
  refine Runs.cl (cm := 177) (as := [.int a1, .int 1, .int 99]) (rest := []) (r1 := ((some (.int v4)), (zS I5 J6 tg))) rfl (Nat.le_of_ble_eq_true rfl) c7 ?_
  refine Runs.as (c' := (7, [.ref 93, .int a1], [.int v4], (zS I5 J6 tg))) rfl ?_
  by_cases c8 : v4 = 0
  · rw [if_pos c8] at h
    refine Runs.brT (P := v4 = 0) (a := 24) (b := 10) (L := [.ref 93, .int a1]) (S := []) (z := (zS I5 J6 tg)) rfl c8 ?_
    refine Runs.sN 1 (c' := (25, [.ref 93, .int a1], [.int (-1)], (zS I5 J6 tg))) rfl ?_
    subst h
    exact Runs.rt rfl
  · rw [if_neg c8] at h
    refine Runs.brF (P := v4 = 0) (a := 24) (b := 10) (L := [.ref 93, .int a1]) (S := []) (z := (zS I5 J6 tg)) rfl c8 ?_
    refine Runs.sN 7 (c' := (21, [.ref 93, .int a1], [.int 999, .int ((I5 94 0) + a1)], (zS I5 J6 tg))) rfl ?_
    by_cases c9 : ((I5 94 0) + a1) ≤ 999
    · rw [if_pos c9] at h
      refine Runs.brT (P := ((I5 94 0) + a1) ≤ 999) (a := 26) (b := 24) (L := [.ref 93, .int a1]) (S := []) (z := (zS I5 J6 tg)) rfl c9 ?_
      refine Runs.sN 12 (c' := (42, [.ref 93, .int a1], [.int ((I5 94 0) + a1)], (zS (up2 I5 94 0 ((I5 94 0) + a1)) J6 tg))) rfl ?_
      subst h
      exact Runs.rt rfl
    · rw [if_neg c9] at h
      refine Runs.brF (P := ((I5 94 0) + a1) ≤ 999) (a := 26) (b := 24) (L := [.ref 93, .int a1]) (S := []) (z := (zS I5 J6 tg)) rfl c9 ?_
      refine Runs.sN 1 (c' := (25, [.ref 93, .int a1], [.int (-1)], (zS I5 J6 tg))) rfl ?_
      subst h
      exact Runs.rt rfl
-- X12_answer 
theorem sg_289 {L d : Nat} {xs : Nat → Int32} (I : Nat → Nat → Int32) (J : Nat → Nat → Int64) (tg : Option Nat) (a1 : Int32) (a2 : Int32) (a3 : Int32) (a4 : Int32) {r : Option Value × SS} (h : (∃ (v13 : Int32) (I14 : Nat → Nat → Int32) (J15 : Nat → Nat → Int64), Runs (GW L xs) d 182 (0, [.int a1], [], (zS I J tg)) ((some (.int v13)), (zS I14 J15 tg)) ∧ (if v13 = 0 then (r = (some (.int (-1)), (zS I14 J15 tg))) else (∃ (v16 : Int32) (I17 : Nat → Nat → Int32) (J18 : Nat → Nat → Int64), Runs (GW L xs) d 182 (0, [.int a2], [], (zS I14 J15 tg)) ((some (.int v16)), (zS I17 J18 tg)) ∧ (if v16 = 0 then (r = (some (.int (-1)), (zS I17 J18 tg))) else (∃ (v19 : Int32) (I20 : Nat → Nat → Int32) (J21 : Nat → Nat → Int64), Runs (GW L xs) d 179 (0, [.ref 93, .int a3], [], (zS I17 J18 tg)) ((some (.int v19)), (zS I20 J21 tg)) ∧ (if v19 = 0 then (r = (some (.int (-1)), (zS I20 J21 tg))) else ((if a4 = (-1) then ((if (I20 94 7) = 60 then (r = (some (.int (-1)), (zS I20 J21 tg))) else (¬ ((890 + (5 * (I20 94 7))) < 0 ∨ 1200 ≤ (890 + (5 * (I20 94 7))).toNatClampNeg) ∧ ¬ (((890 + (5 * (I20 94 7))) + 1) < 0 ∨ 1200 ≤ ((890 + (5 * (I20 94 7))) + 1).toNatClampNeg) ∧ ¬ (((890 + (5 * (I20 94 7))) + 2) < 0 ∨ 1200 ≤ ((890 + (5 * (I20 94 7))) + 2).toNatClampNeg) ∧ ¬ (((890 + (5 * (I20 94 7))) + 3) < 0 ∨ 1200 ≤ ((890 + (5 * (I20 94 7))) + 3).toNatClampNeg) ∧ ¬ (((890 + (5 * (I20 94 7))) + 4) < 0 ∨ 1200 ≤ ((890 + (5 * (I20 94 7))) + 4).toNatClampNeg) ∧ r = (some (.int (((up2 (up2 (up2 (up2 (up2 I20 94 ((890 + (5 * (I20 94 7))).toNatClampNeg) a1) 94 (((890 + (5 * (I20 94 7))) + 1).toNatClampNeg) a2) 94 (((890 + (5 * (I20 94 7))) + 2).toNatClampNeg) a3) 94 (((890 + (5 * (I20 94 7))) + 3).toNatClampNeg) a4) 94 (((890 + (5 * (I20 94 7))) + 4).toNatClampNeg) ((up2 (up2 (up2 (up2 I20 94 ((890 + (5 * (I20 94 7))).toNatClampNeg) a1) 94 (((890 + (5 * (I20 94 7))) + 1).toNatClampNeg) a2) 94 (((890 + (5 * (I20 94 7))) + 2).toNatClampNeg) a3) 94 (((890 + (5 * (I20 94 7))) + 3).toNatClampNeg) a4) 94 0)) 94 7) + 1)), (zS (up2 (up2 (up2 (up2 (up2 (up2 I20 94 ((890 + (5 * (I20 94 7))).toNatClampNeg) a1) 94 (((890 + (5 * (I20 94 7))) + 1).toNatClampNeg) a2) 94 (((890 + (5 * (I20 94 7))) + 2).toNatClampNeg) a3) 94 (((890 + (5 * (I20 94 7))) + 3).toNatClampNeg) a4) 94 (((890 + (5 * (I20 94 7))) + 4).toNatClampNeg) ((up2 (up2 (up2 (up2 I20 94 ((890 + (5 * (I20 94 7))).toNatClampNeg) a1) 94 (((890 + (5 * (I20 94 7))) + 1).toNatClampNeg) a2) 94 (((890 + (5 * (I20 94 7))) + 2).toNatClampNeg) a3) 94 (((890 + (5 * (I20 94 7))) + 3).toNatClampNeg) a4) 94 0)) 94 7 (((up2 (up2 (up2 (up2 (up2 I20 94 ((890 + (5 * (I20 94 7))).toNatClampNeg) a1) 94 (((890 + (5 * (I20 94 7))) + 1).toNatClampNeg) a2) 94 (((890 + (5 * (I20 94 7))) + 2).toNatClampNeg) a3) 94 (((890 + (5 * (I20 94 7))) + 3).toNatClampNeg) a4) 94 (((890 + (5 * (I20 94 7))) + 4).toNatClampNeg) ((up2 (up2 (up2 (up2 I20 94 ((890 + (5 * (I20 94 7))).toNatClampNeg) a1) 94 (((890 + (5 * (I20 94 7))) + 1).toNatClampNeg) a2) 94 (((890 + (5 * (I20 94 7))) + 2).toNatClampNeg) a3) 94 (((890 + (5 * (I20 94 7))) + 3).toNatClampNeg) a4) 94 0)) 94 7) + 1)) J21 tg))))) else (∃ (v22 : Int32) (I23 : Nat → Nat → Int32) (J24 : Nat → Nat → Int64), Runs (GW L xs) d 180 (0, [.ref 93, .int a4], [], (zS I20 J21 tg)) ((some (.int v22)), (zS I23 J24 tg)) ∧ (if v22 = 0 then (r = (some (.int (-1)), (zS I23 J24 tg))) else ((if (I23 94 7) = 60 then (r = (some (.int (-1)), (zS I23 J24 tg))) else (¬ ((890 + (5 * (I23 94 7))) < 0 ∨ 1200 ≤ (890 + (5 * (I23 94 7))).toNatClampNeg) ∧ ¬ (((890 + (5 * (I23 94 7))) + 1) < 0 ∨ 1200 ≤ ((890 + (5 * (I23 94 7))) + 1).toNatClampNeg) ∧ ¬ (((890 + (5 * (I23 94 7))) + 2) < 0 ∨ 1200 ≤ ((890 + (5 * (I23 94 7))) + 2).toNatClampNeg) ∧ ¬ (((890 + (5 * (I23 94 7))) + 3) < 0 ∨ 1200 ≤ ((890 + (5 * (I23 94 7))) + 3).toNatClampNeg) ∧ ¬ (((890 + (5 * (I23 94 7))) + 4) < 0 ∨ 1200 ≤ ((890 + (5 * (I23 94 7))) + 4).toNatClampNeg) ∧ r = (some (.int (((up2 (up2 (up2 (up2 (up2 I23 94 ((890 + (5 * (I23 94 7))).toNatClampNeg) a1) 94 (((890 + (5 * (I23 94 7))) + 1).toNatClampNeg) a2) 94 (((890 + (5 * (I23 94 7))) + 2).toNatClampNeg) a3) 94 (((890 + (5 * (I23 94 7))) + 3).toNatClampNeg) a4) 94 (((890 + (5 * (I23 94 7))) + 4).toNatClampNeg) ((up2 (up2 (up2 (up2 I23 94 ((890 + (5 * (I23 94 7))).toNatClampNeg) a1) 94 (((890 + (5 * (I23 94 7))) + 1).toNatClampNeg) a2) 94 (((890 + (5 * (I23 94 7))) + 2).toNatClampNeg) a3) 94 (((890 + (5 * (I23 94 7))) + 3).toNatClampNeg) a4) 94 0)) 94 7) + 1)), (zS (up2 (up2 (up2 (up2 (up2 (up2 I23 94 ((890 + (5 * (I23 94 7))).toNatClampNeg) a1) 94 (((890 + (5 * (I23 94 7))) + 1).toNatClampNeg) a2) 94 (((890 + (5 * (I23 94 7))) + 2).toNatClampNeg) a3) 94 (((890 + (5 * (I23 94 7))) + 3).toNatClampNeg) a4) 94 (((890 + (5 * (I23 94 7))) + 4).toNatClampNeg) ((up2 (up2 (up2 (up2 I23 94 ((890 + (5 * (I23 94 7))).toNatClampNeg) a1) 94 (((890 + (5 * (I23 94 7))) + 1).toNatClampNeg) a2) 94 (((890 + (5 * (I23 94 7))) + 2).toNatClampNeg) a3) 94 (((890 + (5 * (I23 94 7))) + 3).toNatClampNeg) a4) 94 0)) 94 7 (((up2 (up2 (up2 (up2 (up2 I23 94 ((890 + (5 * (I23 94 7))).toNatClampNeg) a1) 94 (((890 + (5 * (I23 94 7))) + 1).toNatClampNeg) a2) 94 (((890 + (5 * (I23 94 7))) + 2).toNatClampNeg) a3) 94 (((890 + (5 * (I23 94 7))) + 3).toNatClampNeg) a4) 94 (((890 + (5 * (I23 94 7))) + 4).toNatClampNeg) ((up2 (up2 (up2 (up2 I23 94 ((890 + (5 * (I23 94 7))).toNatClampNeg) a1) 94 (((890 + (5 * (I23 94 7))) + 1).toNatClampNeg) a2) 94 (((890 + (5 * (I23 94 7))) + 2).toNatClampNeg) a3) 94 (((890 + (5 * (I23 94 7))) + 3).toNatClampNeg) a4) 94 0)) 94 7) + 1)) J24 tg)))))))))))))))) : Runs (GW L xs) (d + 1) 289 (0, [.ref 93, .int a1, .int a2, .int a3, .int a4, vU], [], (zS I J tg)) r := by
  refine Runs.sN 1 (c' := (1, [.ref 93, .int a1, .int a2, .int a3, .int a4, vU], [.int a1], (zS I J tg))) rfl ?_
  obtain ⟨v13, I14, J15, c25, h⟩ := h
  refine Runs.cl (cm := 182) (as := [.int a1]) (rest := []) (r1 := ((some (.int v13)), (zS I14 J15 tg))) rfl (Nat.le_of_ble_eq_true rfl) c25 ?_
  refine Runs.as (c' := (4, [.ref 93, .int a1, .int a2, .int a3, .int a4, vU], [.int v13], (zS I14 J15 tg))) rfl ?_
  by_cases c26 : v13 = 0
  · rw [if_pos c26] at h
    refine Runs.brT (P := v13 = 0) (a := 49) (b := 7) (L := [.ref 93, .int a1, .int a2, .int a3, .int a4, vU]) (S := []) (z := (zS I14 J15 tg)) rfl c26 ?_
    refine Runs.sN 1 (c' := (50, [.ref 93, .int a1, .int a2, .int a3, .int a4, vU], [.int (-1)], (zS I14 J15 tg))) rfl ?_
    subst h
    exact Runs.rt rfl
  · rw [if_neg c26] at h
    refine Runs.brF (P := v13 = 0) (a := 49) (b := 7) (L := [.ref 93, .int a1, .int a2, .int a3, .int a4, vU]) (S := []) (z := (zS I14 J15 tg)) rfl c26 ?_
    refine Runs.sN 1 (c' := (8, [.ref 93, .int a1, .int a2, .int a3, .int a4, vU], [.int a2], (zS I14 J15 tg))) rfl ?_
    obtain ⟨v16, I17, J18, c27, h⟩ := h
    refine Runs.cl (cm := 182) (as := [.int a2]) (rest := []) (r1 := ((some (.int v16)), (zS I17 J18 tg))) rfl (Nat.le_of_ble_eq_true rfl) c27 ?_
    refine Runs.as (c' := (11, [.ref 93, .int a1, .int a2, .int a3, .int a4, vU], [.int v16], (zS I17 J18 tg))) rfl ?_
    by_cases c28 : v16 = 0
    · rw [if_pos c28] at h
      refine Runs.brT (P := v16 = 0) (a := 49) (b := 14) (L := [.ref 93, .int a1, .int a2, .int a3, .int a4, vU]) (S := []) (z := (zS I17 J18 tg)) rfl c28 ?_
      refine Runs.sN 1 (c' := (50, [.ref 93, .int a1, .int a2, .int a3, .int a4, vU], [.int (-1)], (zS I17 J18 tg))) rfl ?_
      subst h
      exact Runs.rt rfl
    · rw [if_neg c28] at h
      refine Runs.brF (P := v16 = 0) (a := 49) (b := 14) (L := [.ref 93, .int a1, .int a2, .int a3, .int a4, vU]) (S := []) (z := (zS I17 J18 tg)) rfl c28 ?_
      refine Runs.sN 2 (c' := (16, [.ref 93, .int a1, .int a2, .int a3, .int a4, vU], [.int a3, .ref 93], (zS I17 J18 tg))) rfl ?_
      obtain ⟨v19, I20, J21, c29, h⟩ := h
      refine Runs.cl (cm := 179) (as := [.ref 93, .int a3]) (rest := []) (r1 := ((some (.int v19)), (zS I20 J21 tg))) rfl (Nat.le_of_ble_eq_true rfl) c29 ?_
      refine Runs.as (c' := (19, [.ref 93, .int a1, .int a2, .int a3, .int a4, vU], [.int v19], (zS I20 J21 tg))) rfl ?_
      by_cases c30 : v19 = 0
      · rw [if_pos c30] at h
        refine Runs.brT (P := v19 = 0) (a := 49) (b := 22) (L := [.ref 93, .int a1, .int a2, .int a3, .int a4, vU]) (S := []) (z := (zS I20 J21 tg)) rfl c30 ?_
        refine Runs.sN 1 (c' := (50, [.ref 93, .int a1, .int a2, .int a3, .int a4, vU], [.int (-1)], (zS I20 J21 tg))) rfl ?_
        subst h
        exact Runs.rt rfl
      · rw [if_neg c30] at h
        refine Runs.brF (P := v19 = 0) (a := 49) (b := 22) (L := [.ref 93, .int a1, .int a2, .int a3, .int a4, vU]) (S := []) (z := (zS I20 J21 tg)) rfl c30 ?_
        refine Runs.sN 2 (c' := (25, [.ref 93, .int a1, .int a2, .int a3, .int a4, vU], [.int (-1), .int a4], (zS I20 J21 tg))) rfl ?_
        by_cases c31 : a4 = (-1)
        · rw [if_pos c31] at h
          refine Runs.brT (P := a4 = (-1)) (a := 37) (b := 28) (L := [.ref 93, .int a1, .int a2, .int a3, .int a4, vU]) (S := []) (z := (zS I20 J21 tg)) rfl c31 ?_
          refine Runs.sN 5 (c' := (46, [.ref 93, .int a1, .int a2, .int a3, .int a4, vU], [.int 60, .int (I20 94 7)], (zS I20 J21 tg))) rfl ?_
          by_cases c32 : (I20 94 7) = 60
          · rw [if_pos c32] at h
            refine Runs.brT (P := (I20 94 7) = 60) (a := 49) (b := 51) (L := [.ref 93, .int a1, .int a2, .int a3, .int a4, vU]) (S := []) (z := (zS I20 J21 tg)) rfl c32 ?_
            refine Runs.sN 1 (c' := (50, [.ref 93, .int a1, .int a2, .int a3, .int a4, vU], [.int (-1)], (zS I20 J21 tg))) rfl ?_
            subst h
            exact Runs.rt rfl
          · rw [if_neg c32] at h
            refine Runs.brF (P := (I20 94 7) = 60) (a := 49) (b := 51) (L := [.ref 93, .int a1, .int a2, .int a3, .int a4, vU]) (S := []) (z := (zS I20 J21 tg)) rfl c32 ?_
            refine Runs.sN 13 (c' := (73, [.ref 93, .int a1, .int a2, .int a3, .int a4, .int (890 + (5 * (I20 94 7)))], [.int a1, .int (890 + (5 * (I20 94 7))), .ref 94], (zS I20 J21 tg))) rfl ?_
            obtain ⟨c33, h⟩ := h
            refine Runs.to (c' := (74, [.ref 93, .int a1, .int a2, .int a3, .int a4, .int (890 + (5 * (I20 94 7)))], [], (zS (up2 I20 94 ((890 + (5 * (I20 94 7))).toNatClampNeg) a1) J21 tg))) (Runs.ist rfl (show (94 : Nat) < 114 by decide) rfl c33) ?_
            refine Runs.sN 6 (c' := (83, [.ref 93, .int a1, .int a2, .int a3, .int a4, .int (890 + (5 * (I20 94 7)))], [.int a2, .int ((890 + (5 * (I20 94 7))) + 1), .ref 94], (zS (up2 I20 94 ((890 + (5 * (I20 94 7))).toNatClampNeg) a1) J21 tg))) rfl ?_
            obtain ⟨c34, h⟩ := h
            refine Runs.to (c' := (84, [.ref 93, .int a1, .int a2, .int a3, .int a4, .int (890 + (5 * (I20 94 7)))], [], (zS (up2 (up2 I20 94 ((890 + (5 * (I20 94 7))).toNatClampNeg) a1) 94 (((890 + (5 * (I20 94 7))) + 1).toNatClampNeg) a2) J21 tg))) (Runs.ist rfl (show (94 : Nat) < 114 by decide) rfl c34) ?_
            refine Runs.sN 6 (c' := (93, [.ref 93, .int a1, .int a2, .int a3, .int a4, .int (890 + (5 * (I20 94 7)))], [.int a3, .int ((890 + (5 * (I20 94 7))) + 2), .ref 94], (zS (up2 (up2 I20 94 ((890 + (5 * (I20 94 7))).toNatClampNeg) a1) 94 (((890 + (5 * (I20 94 7))) + 1).toNatClampNeg) a2) J21 tg))) rfl ?_
            obtain ⟨c35, h⟩ := h
            refine Runs.to (c' := (94, [.ref 93, .int a1, .int a2, .int a3, .int a4, .int (890 + (5 * (I20 94 7)))], [], (zS (up2 (up2 (up2 I20 94 ((890 + (5 * (I20 94 7))).toNatClampNeg) a1) 94 (((890 + (5 * (I20 94 7))) + 1).toNatClampNeg) a2) 94 (((890 + (5 * (I20 94 7))) + 2).toNatClampNeg) a3) J21 tg))) (Runs.ist rfl (show (94 : Nat) < 114 by decide) rfl c35) ?_
            refine Runs.sN 6 (c' := (104, [.ref 93, .int a1, .int a2, .int a3, .int a4, .int (890 + (5 * (I20 94 7)))], [.int a4, .int ((890 + (5 * (I20 94 7))) + 3), .ref 94], (zS (up2 (up2 (up2 I20 94 ((890 + (5 * (I20 94 7))).toNatClampNeg) a1) 94 (((890 + (5 * (I20 94 7))) + 1).toNatClampNeg) a2) 94 (((890 + (5 * (I20 94 7))) + 2).toNatClampNeg) a3) J21 tg))) rfl ?_
            obtain ⟨c36, h⟩ := h
            refine Runs.to (c' := (105, [.ref 93, .int a1, .int a2, .int a3, .int a4, .int (890 + (5 * (I20 94 7)))], [], (zS (up2 (up2 (up2 (up2 I20 94 ((890 + (5 * (I20 94 7))).toNatClampNeg) a1) 94 (((890 + (5 * (I20 94 7))) + 1).toNatClampNeg) a2) 94 (((890 + (5 * (I20 94 7))) + 2).toNatClampNeg) a3) 94 (((890 + (5 * (I20 94 7))) + 3).toNatClampNeg) a4) J21 tg))) (Runs.ist rfl (show (94 : Nat) < 114 by decide) rfl c36) ?_
            refine Runs.sN 9 (c' := (119, [.ref 93, .int a1, .int a2, .int a3, .int a4, .int (890 + (5 * (I20 94 7)))], [.int ((up2 (up2 (up2 (up2 I20 94 ((890 + (5 * (I20 94 7))).toNatClampNeg) a1) 94 (((890 + (5 * (I20 94 7))) + 1).toNatClampNeg) a2) 94 (((890 + (5 * (I20 94 7))) + 2).toNatClampNeg) a3) 94 (((890 + (5 * (I20 94 7))) + 3).toNatClampNeg) a4) 94 0), .int ((890 + (5 * (I20 94 7))) + 4), .ref 94], (zS (up2 (up2 (up2 (up2 I20 94 ((890 + (5 * (I20 94 7))).toNatClampNeg) a1) 94 (((890 + (5 * (I20 94 7))) + 1).toNatClampNeg) a2) 94 (((890 + (5 * (I20 94 7))) + 2).toNatClampNeg) a3) 94 (((890 + (5 * (I20 94 7))) + 3).toNatClampNeg) a4) J21 tg))) rfl ?_
            obtain ⟨c37, h⟩ := h
            refine Runs.to (c' := (120, [.ref 93, .int a1, .int a2, .int a3, .int a4, .int (890 + (5 * (I20 94 7)))], [], (zS (up2 (up2 (up2 (up2 (up2 I20 94 ((890 + (5 * (I20 94 7))).toNatClampNeg) a1) 94 (((890 + (5 * (I20 94 7))) + 1).toNatClampNeg) a2) 94 (((890 + (5 * (I20 94 7))) + 2).toNatClampNeg) a3) 94 (((890 + (5 * (I20 94 7))) + 3).toNatClampNeg) a4) 94 (((890 + (5 * (I20 94 7))) + 4).toNatClampNeg) ((up2 (up2 (up2 (up2 I20 94 ((890 + (5 * (I20 94 7))).toNatClampNeg) a1) 94 (((890 + (5 * (I20 94 7))) + 1).toNatClampNeg) a2) 94 (((890 + (5 * (I20 94 7))) + 2).toNatClampNeg) a3) 94 (((890 + (5 * (I20 94 7))) + 3).toNatClampNeg) a4) 94 0)) J21 tg))) (Runs.ist rfl (show (94 : Nat) < 114 by decide) rfl c37) ?_
            refine Runs.sN 12 (c' := (138, [.ref 93, .int a1, .int a2, .int a3, .int a4, .int (890 + (5 * (I20 94 7)))], [.int (((up2 (up2 (up2 (up2 (up2 I20 94 ((890 + (5 * (I20 94 7))).toNatClampNeg) a1) 94 (((890 + (5 * (I20 94 7))) + 1).toNatClampNeg) a2) 94 (((890 + (5 * (I20 94 7))) + 2).toNatClampNeg) a3) 94 (((890 + (5 * (I20 94 7))) + 3).toNatClampNeg) a4) 94 (((890 + (5 * (I20 94 7))) + 4).toNatClampNeg) ((up2 (up2 (up2 (up2 I20 94 ((890 + (5 * (I20 94 7))).toNatClampNeg) a1) 94 (((890 + (5 * (I20 94 7))) + 1).toNatClampNeg) a2) 94 (((890 + (5 * (I20 94 7))) + 2).toNatClampNeg) a3) 94 (((890 + (5 * (I20 94 7))) + 3).toNatClampNeg) a4) 94 0)) 94 7) + 1)], (zS (up2 (up2 (up2 (up2 (up2 (up2 I20 94 ((890 + (5 * (I20 94 7))).toNatClampNeg) a1) 94 (((890 + (5 * (I20 94 7))) + 1).toNatClampNeg) a2) 94 (((890 + (5 * (I20 94 7))) + 2).toNatClampNeg) a3) 94 (((890 + (5 * (I20 94 7))) + 3).toNatClampNeg) a4) 94 (((890 + (5 * (I20 94 7))) + 4).toNatClampNeg) ((up2 (up2 (up2 (up2 I20 94 ((890 + (5 * (I20 94 7))).toNatClampNeg) a1) 94 (((890 + (5 * (I20 94 7))) + 1).toNatClampNeg) a2) 94 (((890 + (5 * (I20 94 7))) + 2).toNatClampNeg) a3) 94 (((890 + (5 * (I20 94 7))) + 3).toNatClampNeg) a4) 94 0)) 94 7 (((up2 (up2 (up2 (up2 (up2 I20 94 ((890 + (5 * (I20 94 7))).toNatClampNeg) a1) 94 (((890 + (5 * (I20 94 7))) + 1).toNatClampNeg) a2) 94 (((890 + (5 * (I20 94 7))) + 2).toNatClampNeg) a3) 94 (((890 + (5 * (I20 94 7))) + 3).toNatClampNeg) a4) 94 (((890 + (5 * (I20 94 7))) + 4).toNatClampNeg) ((up2 (up2 (up2 (up2 I20 94 ((890 + (5 * (I20 94 7))).toNatClampNeg) a1) 94 (((890 + (5 * (I20 94 7))) + 1).toNatClampNeg) a2) 94 (((890 + (5 * (I20 94 7))) + 2).toNatClampNeg) a3) 94 (((890 + (5 * (I20 94 7))) + 3).toNatClampNeg) a4) 94 0)) 94 7) + 1)) J21 tg))) rfl ?_
            subst h
            exact Runs.rt rfl
        · rw [if_neg c31] at h
          refine Runs.brF (P := a4 = (-1)) (a := 37) (b := 28) (L := [.ref 93, .int a1, .int a2, .int a3, .int a4, vU]) (S := []) (z := (zS I20 J21 tg)) rfl c31 ?_
          refine Runs.sN 2 (c' := (31, [.ref 93, .int a1, .int a2, .int a3, .int a4, vU], [.int a4, .ref 93], (zS I20 J21 tg))) rfl ?_
          obtain ⟨v22, I23, J24, c38, h⟩ := h
          refine Runs.cl (cm := 180) (as := [.ref 93, .int a4]) (rest := []) (r1 := ((some (.int v22)), (zS I23 J24 tg))) rfl (Nat.le_of_ble_eq_true rfl) c38 ?_
          refine Runs.as (c' := (34, [.ref 93, .int a1, .int a2, .int a3, .int a4, vU], [.int v22], (zS I23 J24 tg))) rfl ?_
          by_cases c39 : v22 = 0
          · rw [if_pos c39] at h
            refine Runs.brT (P := v22 = 0) (a := 49) (b := 37) (L := [.ref 93, .int a1, .int a2, .int a3, .int a4, vU]) (S := []) (z := (zS I23 J24 tg)) rfl c39 ?_
            refine Runs.sN 1 (c' := (50, [.ref 93, .int a1, .int a2, .int a3, .int a4, vU], [.int (-1)], (zS I23 J24 tg))) rfl ?_
            subst h
            exact Runs.rt rfl
          · rw [if_neg c39] at h
            refine Runs.brF (P := v22 = 0) (a := 49) (b := 37) (L := [.ref 93, .int a1, .int a2, .int a3, .int a4, vU]) (S := []) (z := (zS I23 J24 tg)) rfl c39 ?_
            refine Runs.sN 5 (c' := (46, [.ref 93, .int a1, .int a2, .int a3, .int a4, vU], [.int 60, .int (I23 94 7)], (zS I23 J24 tg))) rfl ?_
            by_cases c40 : (I23 94 7) = 60
            · rw [if_pos c40] at h
              refine Runs.brT (P := (I23 94 7) = 60) (a := 49) (b := 51) (L := [.ref 93, .int a1, .int a2, .int a3, .int a4, vU]) (S := []) (z := (zS I23 J24 tg)) rfl c40 ?_
              refine Runs.sN 1 (c' := (50, [.ref 93, .int a1, .int a2, .int a3, .int a4, vU], [.int (-1)], (zS I23 J24 tg))) rfl ?_
              subst h
              exact Runs.rt rfl
            · rw [if_neg c40] at h
              refine Runs.brF (P := (I23 94 7) = 60) (a := 49) (b := 51) (L := [.ref 93, .int a1, .int a2, .int a3, .int a4, vU]) (S := []) (z := (zS I23 J24 tg)) rfl c40 ?_
              refine Runs.sN 13 (c' := (73, [.ref 93, .int a1, .int a2, .int a3, .int a4, .int (890 + (5 * (I23 94 7)))], [.int a1, .int (890 + (5 * (I23 94 7))), .ref 94], (zS I23 J24 tg))) rfl ?_
              obtain ⟨c41, h⟩ := h
              refine Runs.to (c' := (74, [.ref 93, .int a1, .int a2, .int a3, .int a4, .int (890 + (5 * (I23 94 7)))], [], (zS (up2 I23 94 ((890 + (5 * (I23 94 7))).toNatClampNeg) a1) J24 tg))) (Runs.ist rfl (show (94 : Nat) < 114 by decide) rfl c41) ?_
              refine Runs.sN 6 (c' := (83, [.ref 93, .int a1, .int a2, .int a3, .int a4, .int (890 + (5 * (I23 94 7)))], [.int a2, .int ((890 + (5 * (I23 94 7))) + 1), .ref 94], (zS (up2 I23 94 ((890 + (5 * (I23 94 7))).toNatClampNeg) a1) J24 tg))) rfl ?_
              obtain ⟨c42, h⟩ := h
              refine Runs.to (c' := (84, [.ref 93, .int a1, .int a2, .int a3, .int a4, .int (890 + (5 * (I23 94 7)))], [], (zS (up2 (up2 I23 94 ((890 + (5 * (I23 94 7))).toNatClampNeg) a1) 94 (((890 + (5 * (I23 94 7))) + 1).toNatClampNeg) a2) J24 tg))) (Runs.ist rfl (show (94 : Nat) < 114 by decide) rfl c42) ?_
              refine Runs.sN 6 (c' := (93, [.ref 93, .int a1, .int a2, .int a3, .int a4, .int (890 + (5 * (I23 94 7)))], [.int a3, .int ((890 + (5 * (I23 94 7))) + 2), .ref 94], (zS (up2 (up2 I23 94 ((890 + (5 * (I23 94 7))).toNatClampNeg) a1) 94 (((890 + (5 * (I23 94 7))) + 1).toNatClampNeg) a2) J24 tg))) rfl ?_
              obtain ⟨c43, h⟩ := h
              refine Runs.to (c' := (94, [.ref 93, .int a1, .int a2, .int a3, .int a4, .int (890 + (5 * (I23 94 7)))], [], (zS (up2 (up2 (up2 I23 94 ((890 + (5 * (I23 94 7))).toNatClampNeg) a1) 94 (((890 + (5 * (I23 94 7))) + 1).toNatClampNeg) a2) 94 (((890 + (5 * (I23 94 7))) + 2).toNatClampNeg) a3) J24 tg))) (Runs.ist rfl (show (94 : Nat) < 114 by decide) rfl c43) ?_
              refine Runs.sN 6 (c' := (104, [.ref 93, .int a1, .int a2, .int a3, .int a4, .int (890 + (5 * (I23 94 7)))], [.int a4, .int ((890 + (5 * (I23 94 7))) + 3), .ref 94], (zS (up2 (up2 (up2 I23 94 ((890 + (5 * (I23 94 7))).toNatClampNeg) a1) 94 (((890 + (5 * (I23 94 7))) + 1).toNatClampNeg) a2) 94 (((890 + (5 * (I23 94 7))) + 2).toNatClampNeg) a3) J24 tg))) rfl ?_
              obtain ⟨c44, h⟩ := h
              refine Runs.to (c' := (105, [.ref 93, .int a1, .int a2, .int a3, .int a4, .int (890 + (5 * (I23 94 7)))], [], (zS (up2 (up2 (up2 (up2 I23 94 ((890 + (5 * (I23 94 7))).toNatClampNeg) a1) 94 (((890 + (5 * (I23 94 7))) + 1).toNatClampNeg) a2) 94 (((890 + (5 * (I23 94 7))) + 2).toNatClampNeg) a3) 94 (((890 + (5 * (I23 94 7))) + 3).toNatClampNeg) a4) J24 tg))) (Runs.ist rfl (show (94 : Nat) < 114 by decide) rfl c44) ?_
              refine Runs.sN 9 (c' := (119, [.ref 93, .int a1, .int a2, .int a3, .int a4, .int (890 + (5 * (I23 94 7)))], [.int ((up2 (up2 (up2 (up2 I23 94 ((890 + (5 * (I23 94 7))).toNatClampNeg) a1) 94 (((890 + (5 * (I23 94 7))) + 1).toNatClampNeg) a2) 94 (((890 + (5 * (I23 94 7))) + 2).toNatClampNeg) a3) 94 (((890 + (5 * (I23 94 7))) + 3).toNatClampNeg) a4) 94 0), .int ((890 + (5 * (I23 94 7))) + 4), .ref 94], (zS (up2 (up2 (up2 (up2 I23 94 ((890 + (5 * (I23 94 7))).toNatClampNeg) a1) 94 (((890 + (5 * (I23 94 7))) + 1).toNatClampNeg) a2) 94 (((890 + (5 * (I23 94 7))) + 2).toNatClampNeg) a3) 94 (((890 + (5 * (I23 94 7))) + 3).toNatClampNeg) a4) J24 tg))) rfl ?_
              obtain ⟨c45, h⟩ := h
              refine Runs.to (c' := (120, [.ref 93, .int a1, .int a2, .int a3, .int a4, .int (890 + (5 * (I23 94 7)))], [], (zS (up2 (up2 (up2 (up2 (up2 I23 94 ((890 + (5 * (I23 94 7))).toNatClampNeg) a1) 94 (((890 + (5 * (I23 94 7))) + 1).toNatClampNeg) a2) 94 (((890 + (5 * (I23 94 7))) + 2).toNatClampNeg) a3) 94 (((890 + (5 * (I23 94 7))) + 3).toNatClampNeg) a4) 94 (((890 + (5 * (I23 94 7))) + 4).toNatClampNeg) ((up2 (up2 (up2 (up2 I23 94 ((890 + (5 * (I23 94 7))).toNatClampNeg) a1) 94 (((890 + (5 * (I23 94 7))) + 1).toNatClampNeg) a2) 94 (((890 + (5 * (I23 94 7))) + 2).toNatClampNeg) a3) 94 (((890 + (5 * (I23 94 7))) + 3).toNatClampNeg) a4) 94 0)) J24 tg))) (Runs.ist rfl (show (94 : Nat) < 114 by decide) rfl c45) ?_
              refine Runs.sN 12 (c' := (138, [.ref 93, .int a1, .int a2, .int a3, .int a4, .int (890 + (5 * (I23 94 7)))], [.int (((up2 (up2 (up2 (up2 (up2 I23 94 ((890 + (5 * (I23 94 7))).toNatClampNeg) a1) 94 (((890 + (5 * (I23 94 7))) + 1).toNatClampNeg) a2) 94 (((890 + (5 * (I23 94 7))) + 2).toNatClampNeg) a3) 94 (((890 + (5 * (I23 94 7))) + 3).toNatClampNeg) a4) 94 (((890 + (5 * (I23 94 7))) + 4).toNatClampNeg) ((up2 (up2 (up2 (up2 I23 94 ((890 + (5 * (I23 94 7))).toNatClampNeg) a1) 94 (((890 + (5 * (I23 94 7))) + 1).toNatClampNeg) a2) 94 (((890 + (5 * (I23 94 7))) + 2).toNatClampNeg) a3) 94 (((890 + (5 * (I23 94 7))) + 3).toNatClampNeg) a4) 94 0)) 94 7) + 1)], (zS (up2 (up2 (up2 (up2 (up2 (up2 I23 94 ((890 + (5 * (I23 94 7))).toNatClampNeg) a1) 94 (((890 + (5 * (I23 94 7))) + 1).toNatClampNeg) a2) 94 (((890 + (5 * (I23 94 7))) + 2).toNatClampNeg) a3) 94 (((890 + (5 * (I23 94 7))) + 3).toNatClampNeg) a4) 94 (((890 + (5 * (I23 94 7))) + 4).toNatClampNeg) ((up2 (up2 (up2 (up2 I23 94 ((890 + (5 * (I23 94 7))).toNatClampNeg) a1) 94 (((890 + (5 * (I23 94 7))) + 1).toNatClampNeg) a2) 94 (((890 + (5 * (I23 94 7))) + 2).toNatClampNeg) a3) 94 (((890 + (5 * (I23 94 7))) + 3).toNatClampNeg) a4) 94 0)) 94 7 (((up2 (up2 (up2 (up2 (up2 I23 94 ((890 + (5 * (I23 94 7))).toNatClampNeg) a1) 94 (((890 + (5 * (I23 94 7))) + 1).toNatClampNeg) a2) 94 (((890 + (5 * (I23 94 7))) + 2).toNatClampNeg) a3) 94 (((890 + (5 * (I23 94 7))) + 3).toNatClampNeg) a4) 94 (((890 + (5 * (I23 94 7))) + 4).toNatClampNeg) ((up2 (up2 (up2 (up2 I23 94 ((890 + (5 * (I23 94 7))).toNatClampNeg) a1) 94 (((890 + (5 * (I23 94 7))) + 1).toNatClampNeg) a2) 94 (((890 + (5 * (I23 94 7))) + 2).toNatClampNeg) a3) 94 (((890 + (5 * (I23 94 7))) + 3).toNatClampNeg) a4) 94 0)) 94 7) + 1)) J24 tg))) rfl ?_
              subst h
              exact Runs.rt rfl
-- X12_findMinds 
theorem sg_290 {L d : Nat} {xs : Nat → Int32} (I : Nat → Nat → Int32) (J : Nat → Nat → Int64) (tg : Option Nat) (a1 : Int32) (a2 : Int32) {r : Option Value × SS} (h : (Runs (GW L xs) (d + 1) 290 (2, [.ref 93, .int a1, .int a2, .int 0, vU, vU], [], (zS I J tg)) r)) : Runs (GW L xs) (d + 1) 290 (0, [.ref 93, .int a1, .int a2, vU, vU, vU], [], (zS I J tg)) r := by
  refine Runs.sN 2 (c' := (2, [.ref 93, .int a1, .int a2, .int 0, vU, vU], [], (zS I J tg))) rfl ?_
  exact h
theorem sg_290_2 {L d : Nat} {xs : Nat → Int32} (I : Nat → Nat → Int32) (J : Nat → Nat → Int64) (tg : Option Nat) (x1 : Int32) (x2 : Int32) (x3 : Int32) {r : Option Value × SS} (h : (∃ (v1 : Int32) (I2 : Nat → Nat → Int32) (J3 : Nat → Nat → Int64), Runs (GW L xs) d 199 (0, [.ref 93], [], (zS I J tg)) ((some (.int v1)), (zS I2 J3 tg)) ∧ (if v1 < x3 then (Runs (GW L xs) (d + 1) 290 (25, [.ref 93, .int x1, .int x2, .int 0, vU, vU], [], (zS I2 J3 tg)) r) else (¬ (x3 < 0 ∨ 4096 ≤ (x3).toNatClampNeg) ∧ ((1 : Int32) = 0 ∨ (1 : Int32) = 1) ∧ Runs (GW L xs) (d + 1) 290 (2, [.ref 93, .int x1, .int x2, .int (x3 + 1), vU, vU], [], (zS (up2 I2 112 ((x3).toNatClampNeg) 1) J3 tg)) r)))) : Runs (GW L xs) (d + 1) 290 (2, [.ref 93, .int x1, .int x2, .int x3, vU, vU], [], (zS I J tg)) r := by
  refine Runs.sN 2 (c' := (4, [.ref 93, .int x1, .int x2, .int x3, vU, vU], [.ref 93, .int x3], (zS I J tg))) rfl ?_
  obtain ⟨v1, I2, J3, c4, h⟩ := h
  refine Runs.cl (cm := 199) (as := [.ref 93]) (rest := [.int x3]) (r1 := ((some (.int v1)), (zS I2 J3 tg))) rfl (Nat.le_of_ble_eq_true rfl) c4 ?_
  refine Runs.as (c' := (7, [.ref 93, .int x1, .int x2, .int x3, vU, vU], [.int v1, .int x3], (zS I2 J3 tg))) rfl ?_
  by_cases c5 : v1 < x3
  · rw [if_pos c5] at h
    refine Runs.brT (P := v1 < x3) (a := 23) (b := 10) (L := [.ref 93, .int x1, .int x2, .int x3, vU, vU]) (S := []) (z := (zS I2 J3 tg)) rfl c5 ?_
    refine Runs.sN 2 (c' := (25, [.ref 93, .int x1, .int x2, .int 0, vU, vU], [], (zS I2 J3 tg))) rfl ?_
    exact h
  · rw [if_neg c5] at h
    refine Runs.brF (P := v1 < x3) (a := 23) (b := 10) (L := [.ref 93, .int x1, .int x2, .int x3, vU, vU]) (S := []) (z := (zS I2 J3 tg)) rfl c5 ?_
    refine Runs.sN 4 (c' := (16, [.ref 93, .int x1, .int x2, .int x3, vU, vU], [.int 1, .int x3, .ref 112], (zS I2 J3 tg))) rfl ?_
    obtain ⟨c6, h⟩ := h
    obtain ⟨c7, h⟩ := h
    refine Runs.to (c' := (17, [.ref 93, .int x1, .int x2, .int x3, vU, vU], [], (zS (up2 I2 112 ((x3).toNatClampNeg) 1) J3 tg))) (Runs.zst rfl (show (112 : Nat) < 114 by decide) rfl c6 c7) ?_
    refine Runs.sN 2 (c' := (2, [.ref 93, .int x1, .int x2, .int (x3 + 1), vU, vU], [], (zS (up2 I2 112 ((x3).toNatClampNeg) 1) J3 tg))) rfl ?_
    exact h
theorem sg_290_25 {L d : Nat} {xs : Nat → Int32} (I : Nat → Nat → Int32) (J : Nat → Nat → Int64) (tg : Option Nat) (x1 : Int32) (x2 : Int32) (x3 : Int32) {r : Option Value × SS} (h : ((if (I 94 7) ≤ x3 then (r = (none, (zS I J tg))) else (¬ ((890 + (5 * x3)) < 0 ∨ 1200 ≤ (890 + (5 * x3)).toNatClampNeg) ∧ (if (I 94 ((890 + (5 * x3)).toNatClampNeg)) = x1 then (¬ (((890 + (5 * x3)) + 4) < 0 ∨ 1200 ≤ ((890 + (5 * x3)) + 4).toNatClampNeg) ∧ (if (I 94 (((890 + (5 * x3)) + 4).toNatClampNeg)) ≤ x2 then (¬ (((890 + (5 * x3)) + 2) < 0 ∨ 1200 ≤ ((890 + (5 * x3)) + 2).toNatClampNeg) ∧ ¬ (((890 + (5 * x3)) + 1) < 0 ∨ 1200 ≤ ((890 + (5 * x3)) + 1).toNatClampNeg) ∧ ∃ (I1 : Nat → Nat → Int32) (J2 : Nat → Nat → Int64), Runs (GW L xs) d 203 (0, [.ref 93, .int (I 94 (((890 + (5 * x3)) + 2).toNatClampNeg)), .int (I 94 (((890 + (5 * x3)) + 1).toNatClampNeg)), vU], [], (zS I J tg)) (none, (zS I1 J2 tg)) ∧ Runs (GW L xs) (d + 1) 290 (97, [.ref 93, .int x1, .int x2, .int x3, .int (890 + (5 * x3)), .int 0], [], (zS I1 J2 tg)) r) else (Runs (GW L xs) (d + 1) 290 (25, [.ref 93, .int x1, .int x2, .int (x3 + 1), vU, vU], [], (zS I J tg)) r))) else (Runs (GW L xs) (d + 1) 290 (25, [.ref 93, .int x1, .int x2, .int (x3 + 1), vU, vU], [], (zS I J tg)) r)))))) : Runs (GW L xs) (d + 1) 290 (25, [.ref 93, .int x1, .int x2, .int x3, vU, vU], [], (zS I J tg)) r := by
  refine Runs.sN 5 (c' := (33, [.ref 93, .int x1, .int x2, .int x3, vU, vU], [.int (I 94 7), .int x3], (zS I J tg))) rfl ?_
  by_cases c3 : (I 94 7) ≤ x3
  · rw [if_pos c3] at h
    refine Runs.brT (P := (I 94 7) ≤ x3) (a := 160) (b := 36) (L := [.ref 93, .int x1, .int x2, .int x3, vU, vU]) (S := []) (z := (zS I J tg)) rfl c3 ?_
    subst h
    exact Runs.rt rfl
  · rw [if_neg c3] at h
    refine Runs.brF (P := (I 94 7) ≤ x3) (a := 160) (b := 36) (L := [.ref 93, .int x1, .int x2, .int x3, vU, vU]) (S := []) (z := (zS I J tg)) rfl c3 ?_
    refine Runs.sN 9 (c' := (51, [.ref 93, .int x1, .int x2, .int x3, .int (890 + (5 * x3)), vU], [.int (890 + (5 * x3)), .ref 94], (zS I J tg))) rfl ?_
    obtain ⟨c4, h⟩ := h
    refine Runs.to (c' := (52, [.ref 93, .int x1, .int x2, .int x3, .int (890 + (5 * x3)), vU], [.int (I 94 ((890 + (5 * x3)).toNatClampNeg))], (zS I J tg))) (Runs.ild rfl (show (94 : Nat) < 114 by decide) rfl c4) ?_
    refine Runs.sN 1 (c' := (53, [.ref 93, .int x1, .int x2, .int x3, .int (890 + (5 * x3)), vU], [.int x1, .int (I 94 ((890 + (5 * x3)).toNatClampNeg))], (zS I J tg))) rfl ?_
    by_cases c5 : (I 94 ((890 + (5 * x3)).toNatClampNeg)) = x1
    · rw [if_pos c5] at h
      refine Runs.brT (P := (I 94 ((890 + (5 * x3)).toNatClampNeg)) = x1) (a := 56) (b := 154) (L := [.ref 93, .int x1, .int x2, .int x3, .int (890 + (5 * x3)), vU]) (S := []) (z := (zS I J tg)) rfl c5 ?_
      refine Runs.sN 5 (c' := (64, [.ref 93, .int x1, .int x2, .int x3, .int (890 + (5 * x3)), vU], [.int ((890 + (5 * x3)) + 4), .ref 94], (zS I J tg))) rfl ?_
      obtain ⟨c6, h⟩ := h
      refine Runs.to (c' := (65, [.ref 93, .int x1, .int x2, .int x3, .int (890 + (5 * x3)), vU], [.int (I 94 (((890 + (5 * x3)) + 4).toNatClampNeg))], (zS I J tg))) (Runs.ild rfl (show (94 : Nat) < 114 by decide) rfl c6) ?_
      refine Runs.sN 1 (c' := (66, [.ref 93, .int x1, .int x2, .int x3, .int (890 + (5 * x3)), vU], [.int x2, .int (I 94 (((890 + (5 * x3)) + 4).toNatClampNeg))], (zS I J tg))) rfl ?_
      by_cases c7 : (I 94 (((890 + (5 * x3)) + 4).toNatClampNeg)) ≤ x2
      · rw [if_pos c7] at h
        refine Runs.brT (P := (I 94 (((890 + (5 * x3)) + 4).toNatClampNeg)) ≤ x2) (a := 72) (b := 69) (L := [.ref 93, .int x1, .int x2, .int x3, .int (890 + (5 * x3)), vU]) (S := []) (z := (zS I J tg)) rfl c7 ?_
        refine Runs.sN 6 (c' := (81, [.ref 93, .int x1, .int x2, .int x3, .int (890 + (5 * x3)), vU], [.int ((890 + (5 * x3)) + 2), .ref 94, .ref 93], (zS I J tg))) rfl ?_
        obtain ⟨c8, h⟩ := h
        refine Runs.to (c' := (82, [.ref 93, .int x1, .int x2, .int x3, .int (890 + (5 * x3)), vU], [.int (I 94 (((890 + (5 * x3)) + 2).toNatClampNeg)), .ref 93], (zS I J tg))) (Runs.ild rfl (show (94 : Nat) < 114 by decide) rfl c8) ?_
        refine Runs.sN 5 (c' := (90, [.ref 93, .int x1, .int x2, .int x3, .int (890 + (5 * x3)), vU], [.int ((890 + (5 * x3)) + 1), .ref 94, .int (I 94 (((890 + (5 * x3)) + 2).toNatClampNeg)), .ref 93], (zS I J tg))) rfl ?_
        obtain ⟨c9, h⟩ := h
        refine Runs.to (c' := (91, [.ref 93, .int x1, .int x2, .int x3, .int (890 + (5 * x3)), vU], [.int (I 94 (((890 + (5 * x3)) + 1).toNatClampNeg)), .int (I 94 (((890 + (5 * x3)) + 2).toNatClampNeg)), .ref 93], (zS I J tg))) (Runs.ild rfl (show (94 : Nat) < 114 by decide) rfl c9) ?_
        obtain ⟨I1, J2, c10, h⟩ := h
        refine Runs.cl (cm := 203) (as := [.ref 93, .int (I 94 (((890 + (5 * x3)) + 2).toNatClampNeg)), .int (I 94 (((890 + (5 * x3)) + 1).toNatClampNeg))]) (rest := []) (r1 := (none, (zS I1 J2 tg))) rfl (Nat.le_of_ble_eq_true rfl) c10 ?_
        refine Runs.as (c' := (94, [.ref 93, .int x1, .int x2, .int x3, .int (890 + (5 * x3)), vU], [], (zS I1 J2 tg))) rfl ?_
        refine Runs.sN 2 (c' := (97, [.ref 93, .int x1, .int x2, .int x3, .int (890 + (5 * x3)), .int 0], [], (zS I1 J2 tg))) rfl ?_
        exact h
      · rw [if_neg c7] at h
        refine Runs.brF (P := (I 94 (((890 + (5 * x3)) + 4).toNatClampNeg)) ≤ x2) (a := 72) (b := 69) (L := [.ref 93, .int x1, .int x2, .int x3, .int (890 + (5 * x3)), vU]) (S := []) (z := (zS I J tg)) rfl c7 ?_
        refine Runs.sN 3 (c' := (25, [.ref 93, .int x1, .int x2, .int (x3 + 1), .int (890 + (5 * x3)), vU], [], (zS I J tg))) rfl ?_
        exact Runs.weak (L := [.ref 93, .int x1, .int x2, .int (x3 + 1), vU, vU]) (Lle.k (Lle.k (Lle.k (Lle.k (Lle.u (Lle.k Lle.n)))))) h
    · rw [if_neg c5] at h
      refine Runs.brF (P := (I 94 ((890 + (5 * x3)).toNatClampNeg)) = x1) (a := 56) (b := 154) (L := [.ref 93, .int x1, .int x2, .int x3, .int (890 + (5 * x3)), vU]) (S := []) (z := (zS I J tg)) rfl c5 ?_
      refine Runs.sN 2 (c' := (25, [.ref 93, .int x1, .int x2, .int (x3 + 1), .int (890 + (5 * x3)), vU], [], (zS I J tg))) rfl ?_
      exact Runs.weak (L := [.ref 93, .int x1, .int x2, .int (x3 + 1), vU, vU]) (Lle.k (Lle.k (Lle.k (Lle.k (Lle.u (Lle.k Lle.n)))))) h
theorem sg_290_97 {L d : Nat} {xs : Nat → Int32} (I : Nat → Nat → Int32) (J : Nat → Nat → Int64) (tg : Option Nat) (x1 : Int32) (x2 : Int32) (x3 : Int32) (x4 : Int32) (x5 : Int32) {r : Option Value × SS} (h : (∃ (v1 : Int32) (I2 : Nat → Nat → Int32) (J3 : Nat → Nat → Int64), Runs (GW L xs) d 199 (0, [.ref 93], [], (zS I J tg)) ((some (.int v1)), (zS I2 J3 tg)) ∧ (if v1 < x5 then (Runs (GW L xs) (d + 1) 290 (25, [.ref 93, .int x1, .int x2, .int (x3 + 1), vU, vU], [], (zS I2 J3 tg)) r) else (¬ (x5 < 0 ∨ 4096 ≤ (x5).toNatClampNeg) ∧ (if (I2 112 ((x5).toNatClampNeg)) = 0 then (Runs (GW L xs) (d + 1) 290 (97, [.ref 93, .int x1, .int x2, .int x3, .int x4, .int (x5 + 1)], [], (zS I2 J3 tg)) r) else (∃ (v4 : Int32) (I5 : Nat → Nat → Int32) (J6 : Nat → Nat → Int64), Runs (GW L xs) d 204 (0, [.ref 93, .int x5, .int 0, .int 0, vU, vU, vU, vU, vU], [], (zS I2 J3 tg)) ((some (.int v4)), (zS I5 J6 tg)) ∧ ¬ ((x4 + 3) < 0 ∨ 1200 ≤ (x4 + 3).toNatClampNeg) ∧ (if v4 = (I5 94 ((x4 + 3).toNatClampNeg)) then (¬ (x5 < 0 ∨ 4096 ≤ (x5).toNatClampNeg) ∧ ((1 : Int32) = 0 ∨ (1 : Int32) = 1) ∧ Runs (GW L xs) (d + 1) 290 (97, [.ref 93, .int x1, .int x2, .int x3, .int x4, .int (x5 + 1)], [], (zS (up2 I5 112 ((x5).toNatClampNeg) 1) J6 tg)) r) else (¬ (x5 < 0 ∨ 4096 ≤ (x5).toNatClampNeg) ∧ ((0 : Int32) = 0 ∨ (0 : Int32) = 1) ∧ Runs (GW L xs) (d + 1) 290 (97, [.ref 93, .int x1, .int x2, .int x3, .int x4, .int (x5 + 1)], [], (zS (up2 I5 112 ((x5).toNatClampNeg) 0) J6 tg)) r)))))))) : Runs (GW L xs) (d + 1) 290 (97, [.ref 93, .int x1, .int x2, .int x3, .int x4, .int x5], [], (zS I J tg)) r := by
  refine Runs.sN 2 (c' := (100, [.ref 93, .int x1, .int x2, .int x3, .int x4, .int x5], [.ref 93, .int x5], (zS I J tg))) rfl ?_
  obtain ⟨v1, I2, J3, c7, h⟩ := h
  refine Runs.cl (cm := 199) (as := [.ref 93]) (rest := [.int x5]) (r1 := ((some (.int v1)), (zS I2 J3 tg))) rfl (Nat.le_of_ble_eq_true rfl) c7 ?_
  refine Runs.as (c' := (103, [.ref 93, .int x1, .int x2, .int x3, .int x4, .int x5], [.int v1, .int x5], (zS I2 J3 tg))) rfl ?_
  by_cases c8 : v1 < x5
  · rw [if_pos c8] at h
    refine Runs.brT (P := v1 < x5) (a := 154) (b := 106) (L := [.ref 93, .int x1, .int x2, .int x3, .int x4, .int x5]) (S := []) (z := (zS I2 J3 tg)) rfl c8 ?_
    refine Runs.sN 2 (c' := (25, [.ref 93, .int x1, .int x2, .int (x3 + 1), .int x4, .int x5], [], (zS I2 J3 tg))) rfl ?_
    exact Runs.weak (L := [.ref 93, .int x1, .int x2, .int (x3 + 1), vU, vU]) (Lle.k (Lle.k (Lle.k (Lle.k (Lle.u (Lle.u Lle.n)))))) h
  · rw [if_neg c8] at h
    refine Runs.brF (P := v1 < x5) (a := 154) (b := 106) (L := [.ref 93, .int x1, .int x2, .int x3, .int x4, .int x5]) (S := []) (z := (zS I2 J3 tg)) rfl c8 ?_
    refine Runs.sN 3 (c' := (112, [.ref 93, .int x1, .int x2, .int x3, .int x4, .int x5], [.int x5, .ref 112], (zS I2 J3 tg))) rfl ?_
    obtain ⟨c9, h⟩ := h
    refine Runs.to (c' := (113, [.ref 93, .int x1, .int x2, .int x3, .int x4, .int x5], [.int (I2 112 ((x5).toNatClampNeg))], (zS I2 J3 tg))) (Runs.zld rfl (show (112 : Nat) < 114 by decide) rfl c9) ?_
    by_cases c10 : (I2 112 ((x5).toNatClampNeg)) = 0
    · rw [if_pos c10] at h
      refine Runs.brT (P := (I2 112 ((x5).toNatClampNeg)) = 0) (a := 148) (b := 116) (L := [.ref 93, .int x1, .int x2, .int x3, .int x4, .int x5]) (S := []) (z := (zS I2 J3 tg)) rfl c10 ?_
      refine Runs.sN 2 (c' := (97, [.ref 93, .int x1, .int x2, .int x3, .int x4, .int (x5 + 1)], [], (zS I2 J3 tg))) rfl ?_
      exact h
    · rw [if_neg c10] at h
      refine Runs.brF (P := (I2 112 ((x5).toNatClampNeg)) = 0) (a := 148) (b := 116) (L := [.ref 93, .int x1, .int x2, .int x3, .int x4, .int x5]) (S := []) (z := (zS I2 J3 tg)) rfl c10 ?_
      refine Runs.sN 7 (c' := (127, [.ref 93, .int x1, .int x2, .int x3, .int x4, .int x5], [.int 0, .int 0, .int x5, .ref 93, .int x5, .ref 112], (zS I2 J3 tg))) rfl ?_
      obtain ⟨v4, I5, J6, c11, h⟩ := h
      refine Runs.cl (cm := 204) (as := [.ref 93, .int x5, .int 0, .int 0]) (rest := [.int x5, .ref 112]) (r1 := ((some (.int v4)), (zS I5 J6 tg))) rfl (Nat.le_of_ble_eq_true rfl) c11 ?_
      refine Runs.as (c' := (130, [.ref 93, .int x1, .int x2, .int x3, .int x4, .int x5], [.int v4, .int x5, .ref 112], (zS I5 J6 tg))) rfl ?_
      refine Runs.sN 5 (c' := (138, [.ref 93, .int x1, .int x2, .int x3, .int x4, .int x5], [.int (x4 + 3), .ref 94, .int v4, .int x5, .ref 112], (zS I5 J6 tg))) rfl ?_
      obtain ⟨c12, h⟩ := h
      refine Runs.to (c' := (139, [.ref 93, .int x1, .int x2, .int x3, .int x4, .int x5], [.int (I5 94 ((x4 + 3).toNatClampNeg)), .int v4, .int x5, .ref 112], (zS I5 J6 tg))) (Runs.ild rfl (show (94 : Nat) < 114 by decide) rfl c12) ?_
      by_cases c13 : v4 = (I5 94 ((x4 + 3).toNatClampNeg))
      · rw [if_pos c13] at h
        refine Runs.brT (P := v4 = (I5 94 ((x4 + 3).toNatClampNeg))) (a := 142) (b := 146) (L := [.ref 93, .int x1, .int x2, .int x3, .int x4, .int x5]) (S := [.int x5, .ref 112]) (z := (zS I5 J6 tg)) rfl c13 ?_
        refine Runs.sN 2 (c' := (147, [.ref 93, .int x1, .int x2, .int x3, .int x4, .int x5], [.int 1, .int x5, .ref 112], (zS I5 J6 tg))) rfl ?_
        obtain ⟨c14, h⟩ := h
        obtain ⟨c15, h⟩ := h
        refine Runs.to (c' := (148, [.ref 93, .int x1, .int x2, .int x3, .int x4, .int x5], [], (zS (up2 I5 112 ((x5).toNatClampNeg) 1) J6 tg))) (Runs.zst rfl (show (112 : Nat) < 114 by decide) rfl c14 c15) ?_
        refine Runs.sN 2 (c' := (97, [.ref 93, .int x1, .int x2, .int x3, .int x4, .int (x5 + 1)], [], (zS (up2 I5 112 ((x5).toNatClampNeg) 1) J6 tg))) rfl ?_
        exact h
      · rw [if_neg c13] at h
        refine Runs.brF (P := v4 = (I5 94 ((x4 + 3).toNatClampNeg))) (a := 142) (b := 146) (L := [.ref 93, .int x1, .int x2, .int x3, .int x4, .int x5]) (S := [.int x5, .ref 112]) (z := (zS I5 J6 tg)) rfl c13 ?_
        refine Runs.sN 1 (c' := (147, [.ref 93, .int x1, .int x2, .int x3, .int x4, .int x5], [.int 0, .int x5, .ref 112], (zS I5 J6 tg))) rfl ?_
        obtain ⟨c16, h⟩ := h
        obtain ⟨c17, h⟩ := h
        refine Runs.to (c' := (148, [.ref 93, .int x1, .int x2, .int x3, .int x4, .int x5], [], (zS (up2 I5 112 ((x5).toNatClampNeg) 0) J6 tg))) (Runs.zst rfl (show (112 : Nat) < 114 by decide) rfl c16 c17) ?_
        refine Runs.sN 2 (c' := (97, [.ref 93, .int x1, .int x2, .int x3, .int x4, .int (x5 + 1)], [], (zS (up2 I5 112 ((x5).toNatClampNeg) 0) J6 tg))) rfl ?_
        exact h
-- X12_isDay 
theorem sg_291 {L d : Nat} {xs : Nat → Int32} (I : Nat → Nat → Int32) (J : Nat → Nat → Int64) (tg : Option Nat) (a1 : Int32) {r : Option Value × SS} (h : (∃ (v4 : Int32) (I5 : Nat → Nat → Int32) (J6 : Nat → Nat → Int64), Runs (GW L xs) d 177 (0, [.int a1, .int 0, .int 999], [], (zS I J tg)) ((some (.int v4)), (zS I5 J6 tg)) ∧ (v4 = 0 ∨ v4 = 1) ∧ r = (some (.int v4), (zS I5 J6 tg)))) : Runs (GW L xs) (d + 1) 291 (0, [.int a1], [], (zS I J tg)) r := by
  refine Runs.sN 3 (c' := (5, [.int a1], [.int 999, .int 0, .int a1], (zS I J tg))) rfl ?_
  obtain ⟨v4, I5, J6, c7, h⟩ := h
  refine Runs.cl (cm := 177) (as := [.int a1, .int 0, .int 999]) (rest := []) (r1 := ((some (.int v4)), (zS I5 J6 tg))) rfl (Nat.le_of_ble_eq_true rfl) c7 ?_
  refine Runs.as (c' := (8, [.int a1], [.int v4], (zS I5 J6 tg))) rfl ?_
  obtain ⟨h0, h⟩ := h
  subst h
  exact Runs.zrt rfl rfl h0
-- X12_minds 
theorem sg_292 {L d : Nat} {xs : Nat → Int32} (I : Nat → Nat → Int32) (J : Nat → Nat → Int64) (tg : Option Nat) (a1 : Int32) (a2 : Int32) (a3 : Int32) {r : Option Value × SS} (h : (∃ (v20 : Int32) (I21 : Nat → Nat → Int32) (J22 : Nat → Nat → Int64), Runs (GW L xs) d 182 (0, [.int a1], [], (zS I J tg)) ((some (.int v20)), (zS I21 J22 tg)) ∧ (if v20 = 0 then (r = (some (.int (-1)), (zS I21 J22 tg))) else (∃ (v23 : Int32) (I24 : Nat → Nat → Int32) (J25 : Nat → Nat → Int64), Runs (GW L xs) d 291 (0, [.int a2], [], (zS I21 J22 tg)) ((some (.int v23)), (zS I24 J25 tg)) ∧ (if v23 = 0 then (r = (some (.int (-1)), (zS I24 J25 tg))) else ((if (-1) ≤ a3 then (∃ (I26 : Nat → Nat → Int32) (J27 : Nat → Nat → Int64), Runs (GW L xs) d 290 (0, [.ref 93, .int a1, .int a2, vU, vU, vU], [], (zS I24 J25 tg)) (none, (zS I26 J27 tg)) ∧ Runs (GW L xs) (d + 1) 292 (33, [.ref 93, .int a1, .int a2, .int a3, .int 0, .int 0], [], (zS I26 J27 tg)) r) else (r = (some (.int (-1)), (zS I24 J25 tg)))))))))) : Runs (GW L xs) (d + 1) 292 (0, [.ref 93, .int a1, .int a2, .int a3, vU, vU], [], (zS I J tg)) r := by
  refine Runs.sN 1 (c' := (1, [.ref 93, .int a1, .int a2, .int a3, vU, vU], [.int a1], (zS I J tg))) rfl ?_
  obtain ⟨v20, I21, J22, c28, h⟩ := h
  refine Runs.cl (cm := 182) (as := [.int a1]) (rest := []) (r1 := ((some (.int v20)), (zS I21 J22 tg))) rfl (Nat.le_of_ble_eq_true rfl) c28 ?_
  refine Runs.as (c' := (4, [.ref 93, .int a1, .int a2, .int a3, vU, vU], [.int v20], (zS I21 J22 tg))) rfl ?_
  by_cases c29 : v20 = 0
  · rw [if_pos c29] at h
    refine Runs.brT (P := v20 = 0) (a := 19) (b := 7) (L := [.ref 93, .int a1, .int a2, .int a3, vU, vU]) (S := []) (z := (zS I21 J22 tg)) rfl c29 ?_
    refine Runs.sN 1 (c' := (20, [.ref 93, .int a1, .int a2, .int a3, vU, vU], [.int (-1)], (zS I21 J22 tg))) rfl ?_
    subst h
    exact Runs.rt rfl
  · rw [if_neg c29] at h
    refine Runs.brF (P := v20 = 0) (a := 19) (b := 7) (L := [.ref 93, .int a1, .int a2, .int a3, vU, vU]) (S := []) (z := (zS I21 J22 tg)) rfl c29 ?_
    refine Runs.sN 1 (c' := (8, [.ref 93, .int a1, .int a2, .int a3, vU, vU], [.int a2], (zS I21 J22 tg))) rfl ?_
    obtain ⟨v23, I24, J25, c30, h⟩ := h
    refine Runs.cl (cm := 291) (as := [.int a2]) (rest := []) (r1 := ((some (.int v23)), (zS I24 J25 tg))) rfl (Nat.le_of_ble_eq_true rfl) c30 ?_
    refine Runs.as (c' := (11, [.ref 93, .int a1, .int a2, .int a3, vU, vU], [.int v23], (zS I24 J25 tg))) rfl ?_
    by_cases c31 : v23 = 0
    · rw [if_pos c31] at h
      refine Runs.brT (P := v23 = 0) (a := 19) (b := 14) (L := [.ref 93, .int a1, .int a2, .int a3, vU, vU]) (S := []) (z := (zS I24 J25 tg)) rfl c31 ?_
      refine Runs.sN 1 (c' := (20, [.ref 93, .int a1, .int a2, .int a3, vU, vU], [.int (-1)], (zS I24 J25 tg))) rfl ?_
      subst h
      exact Runs.rt rfl
    · rw [if_neg c31] at h
      refine Runs.brF (P := v23 = 0) (a := 19) (b := 14) (L := [.ref 93, .int a1, .int a2, .int a3, vU, vU]) (S := []) (z := (zS I24 J25 tg)) rfl c31 ?_
      refine Runs.sN 2 (c' := (16, [.ref 93, .int a1, .int a2, .int a3, vU, vU], [.int (-1), .int a3], (zS I24 J25 tg))) rfl ?_
      by_cases c32 : (-1) ≤ a3
      · rw [if_pos c32] at h
        refine Runs.brT (P := (-1) ≤ a3) (a := 21) (b := 19) (L := [.ref 93, .int a1, .int a2, .int a3, vU, vU]) (S := []) (z := (zS I24 J25 tg)) rfl c32 ?_
        refine Runs.sN 3 (c' := (24, [.ref 93, .int a1, .int a2, .int a3, vU, vU], [.int a2, .int a1, .ref 93], (zS I24 J25 tg))) rfl ?_
        obtain ⟨I26, J27, c33, h⟩ := h
        refine Runs.cl (cm := 290) (as := [.ref 93, .int a1, .int a2]) (rest := []) (r1 := (none, (zS I26 J27 tg))) rfl (Nat.le_of_ble_eq_true rfl) c33 ?_
        refine Runs.as (c' := (27, [.ref 93, .int a1, .int a2, .int a3, vU, vU], [], (zS I26 J27 tg))) rfl ?_
        refine Runs.sN 4 (c' := (33, [.ref 93, .int a1, .int a2, .int a3, .int 0, .int 0], [], (zS I26 J27 tg))) rfl ?_
        exact h
      · rw [if_neg c32] at h
        refine Runs.brF (P := (-1) ≤ a3) (a := 21) (b := 19) (L := [.ref 93, .int a1, .int a2, .int a3, vU, vU]) (S := []) (z := (zS I24 J25 tg)) rfl c32 ?_
        refine Runs.sN 1 (c' := (20, [.ref 93, .int a1, .int a2, .int a3, vU, vU], [.int (-1)], (zS I24 J25 tg))) rfl ?_
        subst h
        exact Runs.rt rfl
theorem sg_292_33 {L d : Nat} {xs : Nat → Int32} (I : Nat → Nat → Int32) (J : Nat → Nat → Int64) (tg : Option Nat) (x1 : Int32) (x2 : Int32) (x3 : Int32) (x4 : Int32) (x5 : Int32) {r : Option Value × SS} (h : (∃ (v1 : Int32) (I2 : Nat → Nat → Int32) (J3 : Nat → Nat → Int64), Runs (GW L xs) d 199 (0, [.ref 93], [], (zS I J tg)) ((some (.int v1)), (zS I2 J3 tg)) ∧ (if v1 < x5 then ((if x3 = (-1) then (r = (some (.int x4), (zS I2 J3 tg))) else (r = (some (.int (-1)), (zS I2 J3 tg))))) else (¬ (x5 < 0 ∨ 4096 ≤ (x5).toNatClampNeg) ∧ (if (I2 112 ((x5).toNatClampNeg)) = 0 then (Runs (GW L xs) (d + 1) 292 (33, [.ref 93, .int x1, .int x2, .int x3, .int x4, .int (x5 + 1)], [], (zS I2 J3 tg)) r) else ((if x4 = x3 then (r = (some (.int x5), (zS I2 J3 tg))) else (Runs (GW L xs) (d + 1) 292 (33, [.ref 93, .int x1, .int x2, .int x3, .int (x4 + 1), .int (x5 + 1)], [], (zS I2 J3 tg)) r)))))))) : Runs (GW L xs) (d + 1) 292 (33, [.ref 93, .int x1, .int x2, .int x3, .int x4, .int x5], [], (zS I J tg)) r := by
  refine Runs.sN 2 (c' := (36, [.ref 93, .int x1, .int x2, .int x3, .int x4, .int x5], [.ref 93, .int x5], (zS I J tg))) rfl ?_
  obtain ⟨v1, I2, J3, c4, h⟩ := h
  refine Runs.cl (cm := 199) (as := [.ref 93]) (rest := [.int x5]) (r1 := ((some (.int v1)), (zS I2 J3 tg))) rfl (Nat.le_of_ble_eq_true rfl) c4 ?_
  refine Runs.as (c' := (39, [.ref 93, .int x1, .int x2, .int x3, .int x4, .int x5], [.int v1, .int x5], (zS I2 J3 tg))) rfl ?_
  by_cases c5 : v1 < x5
  · rw [if_pos c5] at h
    refine Runs.brT (P := v1 < x5) (a := 73) (b := 42) (L := [.ref 93, .int x1, .int x2, .int x3, .int x4, .int x5]) (S := []) (z := (zS I2 J3 tg)) rfl c5 ?_
    refine Runs.sN 2 (c' := (75, [.ref 93, .int x1, .int x2, .int x3, .int x4, .int x5], [.int (-1), .int x3], (zS I2 J3 tg))) rfl ?_
    by_cases c6 : x3 = (-1)
    · rw [if_pos c6] at h
      refine Runs.brT (P := x3 = (-1)) (a := 78) (b := 83) (L := [.ref 93, .int x1, .int x2, .int x3, .int x4, .int x5]) (S := []) (z := (zS I2 J3 tg)) rfl c6 ?_
      refine Runs.sN 2 (c' := (84, [.ref 93, .int x1, .int x2, .int x3, .int x4, .int x5], [.int x4], (zS I2 J3 tg))) rfl ?_
      subst h
      exact Runs.rt rfl
    · rw [if_neg c6] at h
      refine Runs.brF (P := x3 = (-1)) (a := 78) (b := 83) (L := [.ref 93, .int x1, .int x2, .int x3, .int x4, .int x5]) (S := []) (z := (zS I2 J3 tg)) rfl c6 ?_
      refine Runs.sN 1 (c' := (84, [.ref 93, .int x1, .int x2, .int x3, .int x4, .int x5], [.int (-1)], (zS I2 J3 tg))) rfl ?_
      subst h
      exact Runs.rt rfl
  · rw [if_neg c5] at h
    refine Runs.brF (P := v1 < x5) (a := 73) (b := 42) (L := [.ref 93, .int x1, .int x2, .int x3, .int x4, .int x5]) (S := []) (z := (zS I2 J3 tg)) rfl c5 ?_
    refine Runs.sN 3 (c' := (48, [.ref 93, .int x1, .int x2, .int x3, .int x4, .int x5], [.int x5, .ref 112], (zS I2 J3 tg))) rfl ?_
    obtain ⟨c7, h⟩ := h
    refine Runs.to (c' := (49, [.ref 93, .int x1, .int x2, .int x3, .int x4, .int x5], [.int (I2 112 ((x5).toNatClampNeg))], (zS I2 J3 tg))) (Runs.zld rfl (show (112 : Nat) < 114 by decide) rfl c7) ?_
    by_cases c8 : (I2 112 ((x5).toNatClampNeg)) = 0
    · rw [if_pos c8] at h
      refine Runs.brT (P := (I2 112 ((x5).toNatClampNeg)) = 0) (a := 52) (b := 55) (L := [.ref 93, .int x1, .int x2, .int x3, .int x4, .int x5]) (S := []) (z := (zS I2 J3 tg)) rfl c8 ?_
      refine Runs.sN 3 (c' := (33, [.ref 93, .int x1, .int x2, .int x3, .int x4, .int (x5 + 1)], [], (zS I2 J3 tg))) rfl ?_
      exact h
    · rw [if_neg c8] at h
      refine Runs.brF (P := (I2 112 ((x5).toNatClampNeg)) = 0) (a := 52) (b := 55) (L := [.ref 93, .int x1, .int x2, .int x3, .int x4, .int x5]) (S := []) (z := (zS I2 J3 tg)) rfl c8 ?_
      refine Runs.sN 2 (c' := (58, [.ref 93, .int x1, .int x2, .int x3, .int x4, .int x5], [.int x3, .int x4], (zS I2 J3 tg))) rfl ?_
      by_cases c9 : x4 = x3
      · rw [if_pos c9] at h
        refine Runs.brT (P := x4 = x3) (a := 61) (b := 64) (L := [.ref 93, .int x1, .int x2, .int x3, .int x4, .int x5]) (S := []) (z := (zS I2 J3 tg)) rfl c9 ?_
        refine Runs.sN 1 (c' := (63, [.ref 93, .int x1, .int x2, .int x3, .int x4, .int x5], [.int x5], (zS I2 J3 tg))) rfl ?_
        subst h
        exact Runs.rt rfl
      · rw [if_neg c9] at h
        refine Runs.brF (P := x4 = x3) (a := 61) (b := 64) (L := [.ref 93, .int x1, .int x2, .int x3, .int x4, .int x5]) (S := []) (z := (zS I2 J3 tg)) rfl c9 ?_
        refine Runs.sN 3 (c' := (33, [.ref 93, .int x1, .int x2, .int x3, .int (x4 + 1), .int (x5 + 1)], [], (zS I2 J3 tg))) rfl ?_
        exact h
-- X12_knows 
theorem sg_293 {L d : Nat} {xs : Nat → Int32} (I : Nat → Nat → Int32) (J : Nat → Nat → Int64) (tg : Option Nat) (a1 : Int32) (a2 : Int32) (a3 : Int32) {r : Option Value × SS} (h : (∃ (v26 : Int32) (I27 : Nat → Nat → Int32) (J28 : Nat → Nat → Int64), Runs (GW L xs) d 182 (0, [.int a1], [], (zS I J tg)) ((some (.int v26)), (zS I27 J28 tg)) ∧ (if v26 = 0 then (r = (some (.int (-1)), (zS I27 J28 tg))) else (∃ (v29 : Int32) (I30 : Nat → Nat → Int32) (J31 : Nat → Nat → Int64), Runs (GW L xs) d 291 (0, [.int a2], [], (zS I27 J28 tg)) ((some (.int v29)), (zS I30 J31 tg)) ∧ (if v29 = 0 then (r = (some (.int (-1)), (zS I30 J31 tg))) else (∃ (v32 : Int32) (I33 : Nat → Nat → Int32) (J34 : Nat → Nat → Int64), Runs (GW L xs) d 180 (0, [.ref 93, .int a3], [], (zS I30 J31 tg)) ((some (.int v32)), (zS I33 J34 tg)) ∧ (if v32 = 0 then (r = (some (.int (-1)), (zS I33 J34 tg))) else (∃ (I35 : Nat → Nat → Int32) (J36 : Nat → Nat → Int64), Runs (GW L xs) d 290 (0, [.ref 93, .int a1, .int a2, vU, vU, vU], [], (zS I33 J34 tg)) (none, (zS I35 J36 tg)) ∧ Runs (GW L xs) (d + 1) 293 (39, [.ref 93, .int a1, .int a2, .int a3, .int 0, .int 0, .int 0], [], (zS I35 J36 tg)) r)))))))) : Runs (GW L xs) (d + 1) 293 (0, [.ref 93, .int a1, .int a2, .int a3, vU, vU, vU], [], (zS I J tg)) r := by
  refine Runs.sN 1 (c' := (1, [.ref 93, .int a1, .int a2, .int a3, vU, vU, vU], [.int a1], (zS I J tg))) rfl ?_
  obtain ⟨v26, I27, J28, c37, h⟩ := h
  refine Runs.cl (cm := 182) (as := [.int a1]) (rest := []) (r1 := ((some (.int v26)), (zS I27 J28 tg))) rfl (Nat.le_of_ble_eq_true rfl) c37 ?_
  refine Runs.as (c' := (4, [.ref 93, .int a1, .int a2, .int a3, vU, vU, vU], [.int v26], (zS I27 J28 tg))) rfl ?_
  by_cases c38 : v26 = 0
  · rw [if_pos c38] at h
    refine Runs.brT (P := v26 = 0) (a := 22) (b := 7) (L := [.ref 93, .int a1, .int a2, .int a3, vU, vU, vU]) (S := []) (z := (zS I27 J28 tg)) rfl c38 ?_
    refine Runs.sN 1 (c' := (23, [.ref 93, .int a1, .int a2, .int a3, vU, vU, vU], [.int (-1)], (zS I27 J28 tg))) rfl ?_
    subst h
    exact Runs.rt rfl
  · rw [if_neg c38] at h
    refine Runs.brF (P := v26 = 0) (a := 22) (b := 7) (L := [.ref 93, .int a1, .int a2, .int a3, vU, vU, vU]) (S := []) (z := (zS I27 J28 tg)) rfl c38 ?_
    refine Runs.sN 1 (c' := (8, [.ref 93, .int a1, .int a2, .int a3, vU, vU, vU], [.int a2], (zS I27 J28 tg))) rfl ?_
    obtain ⟨v29, I30, J31, c39, h⟩ := h
    refine Runs.cl (cm := 291) (as := [.int a2]) (rest := []) (r1 := ((some (.int v29)), (zS I30 J31 tg))) rfl (Nat.le_of_ble_eq_true rfl) c39 ?_
    refine Runs.as (c' := (11, [.ref 93, .int a1, .int a2, .int a3, vU, vU, vU], [.int v29], (zS I30 J31 tg))) rfl ?_
    by_cases c40 : v29 = 0
    · rw [if_pos c40] at h
      refine Runs.brT (P := v29 = 0) (a := 22) (b := 14) (L := [.ref 93, .int a1, .int a2, .int a3, vU, vU, vU]) (S := []) (z := (zS I30 J31 tg)) rfl c40 ?_
      refine Runs.sN 1 (c' := (23, [.ref 93, .int a1, .int a2, .int a3, vU, vU, vU], [.int (-1)], (zS I30 J31 tg))) rfl ?_
      subst h
      exact Runs.rt rfl
    · rw [if_neg c40] at h
      refine Runs.brF (P := v29 = 0) (a := 22) (b := 14) (L := [.ref 93, .int a1, .int a2, .int a3, vU, vU, vU]) (S := []) (z := (zS I30 J31 tg)) rfl c40 ?_
      refine Runs.sN 2 (c' := (16, [.ref 93, .int a1, .int a2, .int a3, vU, vU, vU], [.int a3, .ref 93], (zS I30 J31 tg))) rfl ?_
      obtain ⟨v32, I33, J34, c41, h⟩ := h
      refine Runs.cl (cm := 180) (as := [.ref 93, .int a3]) (rest := []) (r1 := ((some (.int v32)), (zS I33 J34 tg))) rfl (Nat.le_of_ble_eq_true rfl) c41 ?_
      refine Runs.as (c' := (19, [.ref 93, .int a1, .int a2, .int a3, vU, vU, vU], [.int v32], (zS I33 J34 tg))) rfl ?_
      by_cases c42 : v32 = 0
      · rw [if_pos c42] at h
        refine Runs.brT (P := v32 = 0) (a := 22) (b := 24) (L := [.ref 93, .int a1, .int a2, .int a3, vU, vU, vU]) (S := []) (z := (zS I33 J34 tg)) rfl c42 ?_
        refine Runs.sN 1 (c' := (23, [.ref 93, .int a1, .int a2, .int a3, vU, vU, vU], [.int (-1)], (zS I33 J34 tg))) rfl ?_
        subst h
        exact Runs.rt rfl
      · rw [if_neg c42] at h
        refine Runs.brF (P := v32 = 0) (a := 22) (b := 24) (L := [.ref 93, .int a1, .int a2, .int a3, vU, vU, vU]) (S := []) (z := (zS I33 J34 tg)) rfl c42 ?_
        refine Runs.sN 3 (c' := (27, [.ref 93, .int a1, .int a2, .int a3, vU, vU, vU], [.int a2, .int a1, .ref 93], (zS I33 J34 tg))) rfl ?_
        obtain ⟨I35, J36, c43, h⟩ := h
        refine Runs.cl (cm := 290) (as := [.ref 93, .int a1, .int a2]) (rest := []) (r1 := (none, (zS I35 J36 tg))) rfl (Nat.le_of_ble_eq_true rfl) c43 ?_
        refine Runs.as (c' := (30, [.ref 93, .int a1, .int a2, .int a3, vU, vU, vU], [], (zS I35 J36 tg))) rfl ?_
        refine Runs.sN 6 (c' := (39, [.ref 93, .int a1, .int a2, .int a3, .int 0, .int 0, .int 0], [], (zS I35 J36 tg))) rfl ?_
        exact h
theorem sg_293_39 {L d : Nat} {xs : Nat → Int32} (I : Nat → Nat → Int32) (J : Nat → Nat → Int64) (tg : Option Nat) (x1 : Int32) (x2 : Int32) (x3 : Int32) (x4 : Int32) (x5 : Int32) (x6 : Int32) {r : Option Value × SS} (h : (∃ (v1 : Int32) (I2 : Nat → Nat → Int32) (J3 : Nat → Nat → Int64), Runs (GW L xs) d 199 (0, [.ref 93], [], (zS I J tg)) ((some (.int v1)), (zS I2 J3 tg)) ∧ (if v1 < x6 then ((if x4 = 0 then (r = (some (.int 0), (zS I2 J3 tg))) else ((if x4 = x5 then (r = (some (.int 2), (zS I2 J3 tg))) else (r = (some (.int 1), (zS I2 J3 tg))))))) else (¬ (x6 < 0 ∨ 4096 ≤ (x6).toNatClampNeg) ∧ (if (I2 112 ((x6).toNatClampNeg)) = 0 then (Runs (GW L xs) (d + 1) 293 (39, [.ref 93, .int x1, .int x2, .int x3, .int x4, .int x5, .int (x6 + 1)], [], (zS I2 J3 tg)) r) else (Runs (GW L xs) (d + 1) 293 (39, [.ref 93, .int x1, .int x2, .int x3, .int (x4 + ((x6 >>> ((x3 - 12) &&& 31)) &&& 1)), .int (x5 + 1), .int (x6 + 1)], [], (zS I2 J3 tg)) r)))))) : Runs (GW L xs) (d + 1) 293 (39, [.ref 93, .int x1, .int x2, .int x3, .int x4, .int x5, .int x6], [], (zS I J tg)) r := by
  refine Runs.sN 2 (c' := (42, [.ref 93, .int x1, .int x2, .int x3, .int x4, .int x5, .int x6], [.ref 93, .int x6], (zS I J tg))) rfl ?_
  obtain ⟨v1, I2, J3, c4, h⟩ := h
  refine Runs.cl (cm := 199) (as := [.ref 93]) (rest := [.int x6]) (r1 := ((some (.int v1)), (zS I2 J3 tg))) rfl (Nat.le_of_ble_eq_true rfl) c4 ?_
  refine Runs.as (c' := (45, [.ref 93, .int x1, .int x2, .int x3, .int x4, .int x5, .int x6], [.int v1, .int x6], (zS I2 J3 tg))) rfl ?_
  by_cases c5 : v1 < x6
  · rw [if_pos c5] at h
    refine Runs.brT (P := v1 < x6) (a := 84) (b := 48) (L := [.ref 93, .int x1, .int x2, .int x3, .int x4, .int x5, .int x6]) (S := []) (z := (zS I2 J3 tg)) rfl c5 ?_
    refine Runs.sN 1 (c' := (86, [.ref 93, .int x1, .int x2, .int x3, .int x4, .int x5, .int x6], [.int x4], (zS I2 J3 tg))) rfl ?_
    by_cases c6 : x4 = 0
    · rw [if_pos c6] at h
      refine Runs.brT (P := x4 = 0) (a := 89) (b := 93) (L := [.ref 93, .int x1, .int x2, .int x3, .int x4, .int x5, .int x6]) (S := []) (z := (zS I2 J3 tg)) rfl c6 ?_
      refine Runs.sN 2 (c' := (105, [.ref 93, .int x1, .int x2, .int x3, .int x4, .int x5, .int x6], [.int 0], (zS I2 J3 tg))) rfl ?_
      subst h
      exact Runs.rt rfl
    · rw [if_neg c6] at h
      refine Runs.brF (P := x4 = 0) (a := 89) (b := 93) (L := [.ref 93, .int x1, .int x2, .int x3, .int x4, .int x5, .int x6]) (S := []) (z := (zS I2 J3 tg)) rfl c6 ?_
      refine Runs.sN 2 (c' := (97, [.ref 93, .int x1, .int x2, .int x3, .int x4, .int x5, .int x6], [.int x5, .int x4], (zS I2 J3 tg))) rfl ?_
      by_cases c7 : x4 = x5
      · rw [if_pos c7] at h
        refine Runs.brT (P := x4 = x5) (a := 100) (b := 104) (L := [.ref 93, .int x1, .int x2, .int x3, .int x4, .int x5, .int x6]) (S := []) (z := (zS I2 J3 tg)) rfl c7 ?_
        refine Runs.sN 2 (c' := (105, [.ref 93, .int x1, .int x2, .int x3, .int x4, .int x5, .int x6], [.int 2], (zS I2 J3 tg))) rfl ?_
        subst h
        exact Runs.rt rfl
      · rw [if_neg c7] at h
        refine Runs.brF (P := x4 = x5) (a := 100) (b := 104) (L := [.ref 93, .int x1, .int x2, .int x3, .int x4, .int x5, .int x6]) (S := []) (z := (zS I2 J3 tg)) rfl c7 ?_
        refine Runs.sN 1 (c' := (105, [.ref 93, .int x1, .int x2, .int x3, .int x4, .int x5, .int x6], [.int 1], (zS I2 J3 tg))) rfl ?_
        subst h
        exact Runs.rt rfl
  · rw [if_neg c5] at h
    refine Runs.brF (P := v1 < x6) (a := 84) (b := 48) (L := [.ref 93, .int x1, .int x2, .int x3, .int x4, .int x5, .int x6]) (S := []) (z := (zS I2 J3 tg)) rfl c5 ?_
    refine Runs.sN 3 (c' := (54, [.ref 93, .int x1, .int x2, .int x3, .int x4, .int x5, .int x6], [.int x6, .ref 112], (zS I2 J3 tg))) rfl ?_
    obtain ⟨c8, h⟩ := h
    refine Runs.to (c' := (55, [.ref 93, .int x1, .int x2, .int x3, .int x4, .int x5, .int x6], [.int (I2 112 ((x6).toNatClampNeg))], (zS I2 J3 tg))) (Runs.zld rfl (show (112 : Nat) < 114 by decide) rfl c8) ?_
    by_cases c9 : (I2 112 ((x6).toNatClampNeg)) = 0
    · rw [if_pos c9] at h
      refine Runs.brT (P := (I2 112 ((x6).toNatClampNeg)) = 0) (a := 58) (b := 61) (L := [.ref 93, .int x1, .int x2, .int x3, .int x4, .int x5, .int x6]) (S := []) (z := (zS I2 J3 tg)) rfl c9 ?_
      refine Runs.sN 3 (c' := (39, [.ref 93, .int x1, .int x2, .int x3, .int x4, .int x5, .int (x6 + 1)], [], (zS I2 J3 tg))) rfl ?_
      exact h
    · rw [if_neg c9] at h
      refine Runs.brF (P := (I2 112 ((x6).toNatClampNeg)) = 0) (a := 58) (b := 61) (L := [.ref 93, .int x1, .int x2, .int x3, .int x4, .int x5, .int x6]) (S := []) (z := (zS I2 J3 tg)) rfl c9 ?_
      refine Runs.sN 13 (c' := (39, [.ref 93, .int x1, .int x2, .int x3, .int (x4 + ((x6 >>> ((x3 - 12) &&& 31)) &&& 1)), .int (x5 + 1), .int (x6 + 1)], [], (zS I2 J3 tg))) rfl ?_
      exact h
-- X12_parts 
theorem sg_294 {L d : Nat} {xs : Nat → Int32} (I : Nat → Nat → Int32) (J : Nat → Nat → Int64) (tg : Option Nat) (a1 : Int32) (a2 : Int32) (a3 : Int32) {r : Option Value × SS} (h : (∃ (v57 : Int32) (I58 : Nat → Nat → Int32) (J59 : Nat → Nat → Int64), Runs (GW L xs) d 182 (0, [.int a1], [], (zS I J tg)) ((some (.int v57)), (zS I58 J59 tg)) ∧ (if v57 = 0 then (r = (some (.int (-1)), (zS I58 J59 tg))) else (∃ (v60 : Int32) (I61 : Nat → Nat → Int32) (J62 : Nat → Nat → Int64), Runs (GW L xs) d 182 (0, [.int a2], [], (zS I58 J59 tg)) ((some (.int v60)), (zS I61 J62 tg)) ∧ (if v60 = 0 then (r = (some (.int (-1)), (zS I61 J62 tg))) else (∃ (v63 : Int32) (I64 : Nat → Nat → Int32) (J65 : Nat → Nat → Int64), Runs (GW L xs) d 177 (0, [.int a3, .int 0, .int 1], [], (zS I61 J62 tg)) ((some (.int v63)), (zS I64 J65 tg)) ∧ (if v63 = 0 then (r = (some (.int (-1)), (zS I64 J65 tg))) else (∃ (I66 : Nat → Nat → Int32) (J67 : Nat → Nat → Int64), Runs (GW L xs) d 290 (0, [.ref 93, .int a1, .int (I64 94 0), vU, vU, vU], [], (zS I64 J65 tg)) (none, (zS I66 J67 tg)) ∧ Runs (GW L xs) (d + 1) 294 (45, [.ref 93, .int a1, .int a2, .int a3, .int (-1), .int 1, .int 0, vU, vU, vU, vU], [], (zS I66 J67 tg)) r)))))))) : Runs (GW L xs) (d + 1) 294 (0, [.ref 93, .int a1, .int a2, .int a3, vU, vU, vU, vU, vU, vU, vU], [], (zS I J tg)) r := by
  refine Runs.sN 1 (c' := (1, [.ref 93, .int a1, .int a2, .int a3, vU, vU, vU, vU, vU, vU, vU], [.int a1], (zS I J tg))) rfl ?_
  obtain ⟨v57, I58, J59, c68, h⟩ := h
  refine Runs.cl (cm := 182) (as := [.int a1]) (rest := []) (r1 := ((some (.int v57)), (zS I58 J59 tg))) rfl (Nat.le_of_ble_eq_true rfl) c68 ?_
  refine Runs.as (c' := (4, [.ref 93, .int a1, .int a2, .int a3, vU, vU, vU, vU, vU, vU, vU], [.int v57], (zS I58 J59 tg))) rfl ?_
  by_cases c69 : v57 = 0
  · rw [if_pos c69] at h
    refine Runs.brT (P := v57 = 0) (a := 23) (b := 7) (L := [.ref 93, .int a1, .int a2, .int a3, vU, vU, vU, vU, vU, vU, vU]) (S := []) (z := (zS I58 J59 tg)) rfl c69 ?_
    refine Runs.sN 1 (c' := (24, [.ref 93, .int a1, .int a2, .int a3, vU, vU, vU, vU, vU, vU, vU], [.int (-1)], (zS I58 J59 tg))) rfl ?_
    subst h
    exact Runs.rt rfl
  · rw [if_neg c69] at h
    refine Runs.brF (P := v57 = 0) (a := 23) (b := 7) (L := [.ref 93, .int a1, .int a2, .int a3, vU, vU, vU, vU, vU, vU, vU]) (S := []) (z := (zS I58 J59 tg)) rfl c69 ?_
    refine Runs.sN 1 (c' := (8, [.ref 93, .int a1, .int a2, .int a3, vU, vU, vU, vU, vU, vU, vU], [.int a2], (zS I58 J59 tg))) rfl ?_
    obtain ⟨v60, I61, J62, c70, h⟩ := h
    refine Runs.cl (cm := 182) (as := [.int a2]) (rest := []) (r1 := ((some (.int v60)), (zS I61 J62 tg))) rfl (Nat.le_of_ble_eq_true rfl) c70 ?_
    refine Runs.as (c' := (11, [.ref 93, .int a1, .int a2, .int a3, vU, vU, vU, vU, vU, vU, vU], [.int v60], (zS I61 J62 tg))) rfl ?_
    by_cases c71 : v60 = 0
    · rw [if_pos c71] at h
      refine Runs.brT (P := v60 = 0) (a := 23) (b := 14) (L := [.ref 93, .int a1, .int a2, .int a3, vU, vU, vU, vU, vU, vU, vU]) (S := []) (z := (zS I61 J62 tg)) rfl c71 ?_
      refine Runs.sN 1 (c' := (24, [.ref 93, .int a1, .int a2, .int a3, vU, vU, vU, vU, vU, vU, vU], [.int (-1)], (zS I61 J62 tg))) rfl ?_
      subst h
      exact Runs.rt rfl
    · rw [if_neg c71] at h
      refine Runs.brF (P := v60 = 0) (a := 23) (b := 14) (L := [.ref 93, .int a1, .int a2, .int a3, vU, vU, vU, vU, vU, vU, vU]) (S := []) (z := (zS I61 J62 tg)) rfl c71 ?_
      refine Runs.sN 3 (c' := (17, [.ref 93, .int a1, .int a2, .int a3, vU, vU, vU, vU, vU, vU, vU], [.int 1, .int 0, .int a3], (zS I61 J62 tg))) rfl ?_
      obtain ⟨v63, I64, J65, c72, h⟩ := h
      refine Runs.cl (cm := 177) (as := [.int a3, .int 0, .int 1]) (rest := []) (r1 := ((some (.int v63)), (zS I64 J65 tg))) rfl (Nat.le_of_ble_eq_true rfl) c72 ?_
      refine Runs.as (c' := (20, [.ref 93, .int a1, .int a2, .int a3, vU, vU, vU, vU, vU, vU, vU], [.int v63], (zS I64 J65 tg))) rfl ?_
      by_cases c73 : v63 = 0
      · rw [if_pos c73] at h
        refine Runs.brT (P := v63 = 0) (a := 23) (b := 25) (L := [.ref 93, .int a1, .int a2, .int a3, vU, vU, vU, vU, vU, vU, vU]) (S := []) (z := (zS I64 J65 tg)) rfl c73 ?_
        refine Runs.sN 1 (c' := (24, [.ref 93, .int a1, .int a2, .int a3, vU, vU, vU, vU, vU, vU, vU], [.int (-1)], (zS I64 J65 tg))) rfl ?_
        subst h
        exact Runs.rt rfl
      · rw [if_neg c73] at h
        refine Runs.brF (P := v63 = 0) (a := 23) (b := 25) (L := [.ref 93, .int a1, .int a2, .int a3, vU, vU, vU, vU, vU, vU, vU]) (S := []) (z := (zS I64 J65 tg)) rfl c73 ?_
        refine Runs.sN 6 (c' := (33, [.ref 93, .int a1, .int a2, .int a3, vU, vU, vU, vU, vU, vU, vU], [.int (I64 94 0), .int a1, .ref 93], (zS I64 J65 tg))) rfl ?_
        obtain ⟨I66, J67, c74, h⟩ := h
        refine Runs.cl (cm := 290) (as := [.ref 93, .int a1, .int (I64 94 0)]) (rest := []) (r1 := (none, (zS I66 J67 tg))) rfl (Nat.le_of_ble_eq_true rfl) c74 ?_
        refine Runs.as (c' := (36, [.ref 93, .int a1, .int a2, .int a3, vU, vU, vU, vU, vU, vU, vU], [], (zS I66 J67 tg))) rfl ?_
        refine Runs.sN 6 (c' := (45, [.ref 93, .int a1, .int a2, .int a3, .int (-1), .int 1, .int 0, vU, vU, vU, vU], [], (zS I66 J67 tg))) rfl ?_
        exact h
theorem sg_294_45 {L d : Nat} {xs : Nat → Int32} (I : Nat → Nat → Int32) (J : Nat → Nat → Int64) (tg : Option Nat) (x1 : Int32) (x2 : Int32) (x3 : Int32) (x4 : Int32) (x5 : Int32) (x6 : Int32) {r : Option Value × SS} (h : ((if (I 94 1) ≤ x6 then ((if 0 ≤ x4 then ((if x3 = 0 then (r = (some (.int x4), (zS I J tg))) else (r = (some (.int x5), (zS I J tg))))) else (r = (some (.int (-1)), (zS I J tg))))) else (∃ (I1 : Nat → Nat → Int32) (J2 : Nat → Nat → Int64), Runs (GW L xs) d 203 (0, [.ref 93, .int x6, .int x2, vU], [], (zS I J tg)) (none, (zS I1 J2 tg)) ∧ Runs (GW L xs) (d + 1) 294 (69, [.ref 93, .int x1, .int x2, .int x3, .int x4, .int x5, .int x6, .int 0, .int 0, vU, vU], [], (zS I1 J2 tg)) r)))) : Runs (GW L xs) (d + 1) 294 (45, [.ref 93, .int x1, .int x2, .int x3, .int x4, .int x5, .int x6, vU, vU, vU, vU], [], (zS I J tg)) r := by
  refine Runs.sN 5 (c' := (53, [.ref 93, .int x1, .int x2, .int x3, .int x4, .int x5, .int x6, vU, vU, vU, vU], [.int (I 94 1), .int x6], (zS I J tg))) rfl ?_
  by_cases c3 : (I 94 1) ≤ x6
  · rw [if_pos c3] at h
    refine Runs.brT (P := (I 94 1) ≤ x6) (a := 200) (b := 56) (L := [.ref 93, .int x1, .int x2, .int x3, .int x4, .int x5, .int x6, vU, vU, vU, vU]) (S := []) (z := (zS I J tg)) rfl c3 ?_
    refine Runs.sN 1 (c' := (202, [.ref 93, .int x1, .int x2, .int x3, .int x4, .int x5, .int x6, vU, vU, vU, vU], [.int x4], (zS I J tg))) rfl ?_
    by_cases c4 : 0 ≤ x4
    · rw [if_pos c4] at h
      refine Runs.brT (P := 0 ≤ x4) (a := 209) (b := 205) (L := [.ref 93, .int x1, .int x2, .int x3, .int x4, .int x5, .int x6, vU, vU, vU, vU]) (S := []) (z := (zS I J tg)) rfl c4 ?_
      refine Runs.sN 1 (c' := (210, [.ref 93, .int x1, .int x2, .int x3, .int x4, .int x5, .int x6, vU, vU, vU, vU], [.int x3], (zS I J tg))) rfl ?_
      by_cases c5 : x3 = 0
      · rw [if_pos c5] at h
        refine Runs.brT (P := x3 = 0) (a := 213) (b := 218) (L := [.ref 93, .int x1, .int x2, .int x3, .int x4, .int x5, .int x6, vU, vU, vU, vU]) (S := []) (z := (zS I J tg)) rfl c5 ?_
        refine Runs.sN 2 (c' := (220, [.ref 93, .int x1, .int x2, .int x3, .int x4, .int x5, .int x6, vU, vU, vU, vU], [.int x4], (zS I J tg))) rfl ?_
        subst h
        exact Runs.rt rfl
      · rw [if_neg c5] at h
        refine Runs.brF (P := x3 = 0) (a := 213) (b := 218) (L := [.ref 93, .int x1, .int x2, .int x3, .int x4, .int x5, .int x6, vU, vU, vU, vU]) (S := []) (z := (zS I J tg)) rfl c5 ?_
        refine Runs.sN 1 (c' := (220, [.ref 93, .int x1, .int x2, .int x3, .int x4, .int x5, .int x6, vU, vU, vU, vU], [.int x5], (zS I J tg))) rfl ?_
        subst h
        exact Runs.rt rfl
    · rw [if_neg c4] at h
      refine Runs.brF (P := 0 ≤ x4) (a := 209) (b := 205) (L := [.ref 93, .int x1, .int x2, .int x3, .int x4, .int x5, .int x6, vU, vU, vU, vU]) (S := []) (z := (zS I J tg)) rfl c4 ?_
      refine Runs.sN 2 (c' := (220, [.ref 93, .int x1, .int x2, .int x3, .int x4, .int x5, .int x6, vU, vU, vU, vU], [.int (-1)], (zS I J tg))) rfl ?_
      subst h
      exact Runs.rt rfl
  · rw [if_neg c3] at h
    refine Runs.brF (P := (I 94 1) ≤ x6) (a := 200) (b := 56) (L := [.ref 93, .int x1, .int x2, .int x3, .int x4, .int x5, .int x6, vU, vU, vU, vU]) (S := []) (z := (zS I J tg)) rfl c3 ?_
    refine Runs.sN 3 (c' := (60, [.ref 93, .int x1, .int x2, .int x3, .int x4, .int x5, .int x6, vU, vU, vU, vU], [.int x2, .int x6, .ref 93], (zS I J tg))) rfl ?_
    obtain ⟨I1, J2, c6, h⟩ := h
    refine Runs.cl (cm := 203) (as := [.ref 93, .int x6, .int x2]) (rest := []) (r1 := (none, (zS I1 J2 tg))) rfl (Nat.le_of_ble_eq_true rfl) c6 ?_
    refine Runs.as (c' := (63, [.ref 93, .int x1, .int x2, .int x3, .int x4, .int x5, .int x6, vU, vU, vU, vU], [], (zS I1 J2 tg))) rfl ?_
    refine Runs.sN 4 (c' := (69, [.ref 93, .int x1, .int x2, .int x3, .int x4, .int x5, .int x6, .int 0, .int 0, vU, vU], [], (zS I1 J2 tg))) rfl ?_
    exact h
theorem sg_294_69 {L d : Nat} {xs : Nat → Int32} (I : Nat → Nat → Int32) (J : Nat → Nat → Int64) (tg : Option Nat) (x1 : Int32) (x2 : Int32) (x3 : Int32) (x4 : Int32) (x5 : Int32) (x6 : Int32) (x7 : Int32) (x8 : Int32) {r : Option Value × SS} (h : ((if 13 ≤ x8 then (Runs (GW L xs) (d + 1) 294 (93, [.ref 93, .int x1, .int x2, .int x3, .int x4, .int x5, .int x6, .int x7, .int 0, vU, vU], [], (zS I J tg)) r) else (¬ (x8 < 0 ∨ 13 ≤ (x8).toNatClampNeg) ∧ ((0 : Int32) = 0 ∨ (0 : Int32) = 1) ∧ Runs (GW L xs) (d + 1) 294 (69, [.ref 93, .int x1, .int x2, .int x3, .int x4, .int x5, .int x6, .int x7, .int (x8 + 1), vU, vU], [], (zS (up2 I 113 ((x8).toNatClampNeg) 0) J tg)) r)))) : Runs (GW L xs) (d + 1) 294 (69, [.ref 93, .int x1, .int x2, .int x3, .int x4, .int x5, .int x6, .int x7, .int x8, vU, vU], [], (zS I J tg)) r := by
  refine Runs.sN 2 (c' := (73, [.ref 93, .int x1, .int x2, .int x3, .int x4, .int x5, .int x6, .int x7, .int x8, vU, vU], [.int 13, .int x8], (zS I J tg))) rfl ?_
  by_cases c1 : 13 ≤ x8
  · rw [if_pos c1] at h
    refine Runs.brT (P := 13 ≤ x8) (a := 90) (b := 76) (L := [.ref 93, .int x1, .int x2, .int x3, .int x4, .int x5, .int x6, .int x7, .int x8, vU, vU]) (S := []) (z := (zS I J tg)) rfl c1 ?_
    refine Runs.sN 2 (c' := (93, [.ref 93, .int x1, .int x2, .int x3, .int x4, .int x5, .int x6, .int x7, .int 0, vU, vU], [], (zS I J tg))) rfl ?_
    exact h
  · rw [if_neg c1] at h
    refine Runs.brF (P := 13 ≤ x8) (a := 90) (b := 76) (L := [.ref 93, .int x1, .int x2, .int x3, .int x4, .int x5, .int x6, .int x7, .int x8, vU, vU]) (S := []) (z := (zS I J tg)) rfl c1 ?_
    refine Runs.sN 4 (c' := (83, [.ref 93, .int x1, .int x2, .int x3, .int x4, .int x5, .int x6, .int x7, .int x8, vU, vU], [.int 0, .int x8, .ref 113], (zS I J tg))) rfl ?_
    obtain ⟨c2, h⟩ := h
    obtain ⟨c3, h⟩ := h
    refine Runs.to (c' := (84, [.ref 93, .int x1, .int x2, .int x3, .int x4, .int x5, .int x6, .int x7, .int x8, vU, vU], [], (zS (up2 I 113 ((x8).toNatClampNeg) 0) J tg))) (Runs.zst rfl (show (113 : Nat) < 114 by decide) rfl c2 c3) ?_
    refine Runs.sN 2 (c' := (69, [.ref 93, .int x1, .int x2, .int x3, .int x4, .int x5, .int x6, .int x7, .int (x8 + 1), vU, vU], [], (zS (up2 I 113 ((x8).toNatClampNeg) 0) J tg))) rfl ?_
    exact h
theorem sg_294_93 {L d : Nat} {xs : Nat → Int32} (I : Nat → Nat → Int32) (J : Nat → Nat → Int64) (tg : Option Nat) (x1 : Int32) (x2 : Int32) (x3 : Int32) (x4 : Int32) (x5 : Int32) (x6 : Int32) (x7 : Int32) (x8 : Int32) {r : Option Value × SS} (h : (∃ (v1 : Int32) (I2 : Nat → Nat → Int32) (J3 : Nat → Nat → Int64), Runs (GW L xs) d 199 (0, [.ref 93], [], (zS I J tg)) ((some (.int v1)), (zS I2 J3 tg)) ∧ (if v1 < x8 then ((if x5 < x7 then (Runs (GW L xs) (d + 1) 294 (45, [.ref 93, .int x1, .int x2, .int x3, .int x6, .int x7, .int (x6 + 1), vU, vU, vU, vU], [], (zS I2 J3 tg)) r) else (Runs (GW L xs) (d + 1) 294 (45, [.ref 93, .int x1, .int x2, .int x3, .int x4, .int x5, .int (x6 + 1), vU, vU, vU, vU], [], (zS I2 J3 tg)) r))) else (¬ (x8 < 0 ∨ 4096 ≤ (x8).toNatClampNeg) ∧ (if (I2 112 ((x8).toNatClampNeg)) = 0 then (Runs (GW L xs) (d + 1) 294 (93, [.ref 93, .int x1, .int x2, .int x3, .int x4, .int x5, .int x6, .int x7, .int (x8 + 1), vU, vU], [], (zS I2 J3 tg)) r) else (∃ (v4 : Int32) (I5 : Nat → Nat → Int32) (J6 : Nat → Nat → Int64), Runs (GW L xs) d 204 (0, [.ref 93, .int x8, .int 0, .int 0, vU, vU, vU, vU, vU], [], (zS I2 J3 tg)) ((some (.int v4)), (zS I5 J6 tg)) ∧ (if 0 ≤ v4 then (¬ ((v4 - 12) < 0 ∨ 13 ≤ (v4 - 12).toNatClampNeg) ∧ (if (I5 113 ((v4 - 12).toNatClampNeg)) = 0 then (¬ ((v4 - 12) < 0 ∨ 13 ≤ (v4 - 12).toNatClampNeg) ∧ ((1 : Int32) = 0 ∨ (1 : Int32) = 1) ∧ Runs (GW L xs) (d + 1) 294 (93, [.ref 93, .int x1, .int x2, .int x3, .int x4, .int x5, .int x6, .int (x7 + 1), .int (x8 + 1), vU, vU], [], (zS (up2 I5 113 ((v4 - 12).toNatClampNeg) 1) J6 tg)) r) else (¬ ((v4 - 12) < 0 ∨ 13 ≤ (v4 - 12).toNatClampNeg) ∧ ((1 : Int32) = 0 ∨ (1 : Int32) = 1) ∧ Runs (GW L xs) (d + 1) 294 (93, [.ref 93, .int x1, .int x2, .int x3, .int x4, .int x5, .int x6, .int (x7 + 0), .int (x8 + 1), vU, vU], [], (zS (up2 I5 113 ((v4 - 12).toNatClampNeg) 1) J6 tg)) r))) else ((if (I5 113 12) = 0 then (¬ ((12 : Int32) < 0 ∨ 13 ≤ ((12 : Int32)).toNatClampNeg) ∧ ((1 : Int32) = 0 ∨ (1 : Int32) = 1) ∧ Runs (GW L xs) (d + 1) 294 (93, [.ref 93, .int x1, .int x2, .int x3, .int x4, .int x5, .int x6, .int (x7 + 1), .int (x8 + 1), vU, vU], [], (zS (up2 I5 113 (((12 : Int32)).toNatClampNeg) 1) J6 tg)) r) else (¬ ((12 : Int32) < 0 ∨ 13 ≤ ((12 : Int32)).toNatClampNeg) ∧ ((1 : Int32) = 0 ∨ (1 : Int32) = 1) ∧ Runs (GW L xs) (d + 1) 294 (93, [.ref 93, .int x1, .int x2, .int x3, .int x4, .int x5, .int x6, .int (x7 + 0), .int (x8 + 1), vU, vU], [], (zS (up2 I5 113 (((12 : Int32)).toNatClampNeg) 1) J6 tg)) r)))))))))) : Runs (GW L xs) (d + 1) 294 (93, [.ref 93, .int x1, .int x2, .int x3, .int x4, .int x5, .int x6, .int x7, .int x8, vU, vU], [], (zS I J tg)) r := by
  refine Runs.sN 2 (c' := (96, [.ref 93, .int x1, .int x2, .int x3, .int x4, .int x5, .int x6, .int x7, .int x8, vU, vU], [.ref 93, .int x8], (zS I J tg))) rfl ?_
  obtain ⟨v1, I2, J3, c7, h⟩ := h
  refine Runs.cl (cm := 199) (as := [.ref 93]) (rest := [.int x8]) (r1 := ((some (.int v1)), (zS I2 J3 tg))) rfl (Nat.le_of_ble_eq_true rfl) c7 ?_
  refine Runs.as (c' := (99, [.ref 93, .int x1, .int x2, .int x3, .int x4, .int x5, .int x6, .int x7, .int x8, vU, vU], [.int v1, .int x8], (zS I2 J3 tg))) rfl ?_
  by_cases c8 : v1 < x8
  · rw [if_pos c8] at h
    refine Runs.brT (P := v1 < x8) (a := 176) (b := 102) (L := [.ref 93, .int x1, .int x2, .int x3, .int x4, .int x5, .int x6, .int x7, .int x8, vU, vU]) (S := []) (z := (zS I2 J3 tg)) rfl c8 ?_
    refine Runs.sN 2 (c' := (180, [.ref 93, .int x1, .int x2, .int x3, .int x4, .int x5, .int x6, .int x7, .int x8, vU, vU], [.int x5, .int x7], (zS I2 J3 tg))) rfl ?_
    by_cases c9 : x5 < x7
    · rw [if_pos c9] at h
      refine Runs.brT (P := x5 < x7) (a := 186) (b := 183) (L := [.ref 93, .int x1, .int x2, .int x3, .int x4, .int x5, .int x6, .int x7, .int x8, vU, vU]) (S := []) (z := (zS I2 J3 tg)) rfl c9 ?_
      refine Runs.sN 6 (c' := (45, [.ref 93, .int x1, .int x2, .int x3, .int x6, .int x7, .int (x6 + 1), .int x7, .int x8, vU, vU], [], (zS I2 J3 tg))) rfl ?_
      exact Runs.weak (L := [.ref 93, .int x1, .int x2, .int x3, .int x6, .int x7, .int (x6 + 1), vU, vU, vU, vU]) (Lle.k (Lle.k (Lle.k (Lle.k (Lle.k (Lle.k (Lle.k (Lle.u (Lle.u (Lle.k (Lle.k Lle.n))))))))))) h
    · rw [if_neg c9] at h
      refine Runs.brF (P := x5 < x7) (a := 186) (b := 183) (L := [.ref 93, .int x1, .int x2, .int x3, .int x4, .int x5, .int x6, .int x7, .int x8, vU, vU]) (S := []) (z := (zS I2 J3 tg)) rfl c9 ?_
      refine Runs.sN 3 (c' := (45, [.ref 93, .int x1, .int x2, .int x3, .int x4, .int x5, .int (x6 + 1), .int x7, .int x8, vU, vU], [], (zS I2 J3 tg))) rfl ?_
      exact Runs.weak (L := [.ref 93, .int x1, .int x2, .int x3, .int x4, .int x5, .int (x6 + 1), vU, vU, vU, vU]) (Lle.k (Lle.k (Lle.k (Lle.k (Lle.k (Lle.k (Lle.k (Lle.u (Lle.u (Lle.k (Lle.k Lle.n))))))))))) h
  · rw [if_neg c8] at h
    refine Runs.brF (P := v1 < x8) (a := 176) (b := 102) (L := [.ref 93, .int x1, .int x2, .int x3, .int x4, .int x5, .int x6, .int x7, .int x8, vU, vU]) (S := []) (z := (zS I2 J3 tg)) rfl c8 ?_
    refine Runs.sN 3 (c' := (108, [.ref 93, .int x1, .int x2, .int x3, .int x4, .int x5, .int x6, .int x7, .int x8, vU, vU], [.int x8, .ref 112], (zS I2 J3 tg))) rfl ?_
    obtain ⟨c10, h⟩ := h
    refine Runs.to (c' := (109, [.ref 93, .int x1, .int x2, .int x3, .int x4, .int x5, .int x6, .int x7, .int x8, vU, vU], [.int (I2 112 ((x8).toNatClampNeg))], (zS I2 J3 tg))) (Runs.zld rfl (show (112 : Nat) < 114 by decide) rfl c10) ?_
    by_cases c11 : (I2 112 ((x8).toNatClampNeg)) = 0
    · rw [if_pos c11] at h
      refine Runs.brT (P := (I2 112 ((x8).toNatClampNeg)) = 0) (a := 112) (b := 115) (L := [.ref 93, .int x1, .int x2, .int x3, .int x4, .int x5, .int x6, .int x7, .int x8, vU, vU]) (S := []) (z := (zS I2 J3 tg)) rfl c11 ?_
      refine Runs.sN 3 (c' := (93, [.ref 93, .int x1, .int x2, .int x3, .int x4, .int x5, .int x6, .int x7, .int (x8 + 1), vU, vU], [], (zS I2 J3 tg))) rfl ?_
      exact h
    · rw [if_neg c11] at h
      refine Runs.brF (P := (I2 112 ((x8).toNatClampNeg)) = 0) (a := 112) (b := 115) (L := [.ref 93, .int x1, .int x2, .int x3, .int x4, .int x5, .int x6, .int x7, .int x8, vU, vU]) (S := []) (z := (zS I2 J3 tg)) rfl c11 ?_
      refine Runs.sN 4 (c' := (120, [.ref 93, .int x1, .int x2, .int x3, .int x4, .int x5, .int x6, .int x7, .int x8, vU, vU], [.int 0, .int 0, .int x8, .ref 93], (zS I2 J3 tg))) rfl ?_
      obtain ⟨v4, I5, J6, c12, h⟩ := h
      refine Runs.cl (cm := 204) (as := [.ref 93, .int x8, .int 0, .int 0]) (rest := []) (r1 := ((some (.int v4)), (zS I5 J6 tg))) rfl (Nat.le_of_ble_eq_true rfl) c12 ?_
      refine Runs.as (c' := (123, [.ref 93, .int x1, .int x2, .int x3, .int x4, .int x5, .int x6, .int x7, .int x8, vU, vU], [.int v4], (zS I5 J6 tg))) rfl ?_
      refine Runs.sN 2 (c' := (127, [.ref 93, .int x1, .int x2, .int x3, .int x4, .int x5, .int x6, .int x7, .int x8, .int v4, vU], [.int v4], (zS I5 J6 tg))) rfl ?_
      by_cases c13 : 0 ≤ v4
      · rw [if_pos c13] at h
        refine Runs.brT (P := 0 ≤ v4) (a := 135) (b := 130) (L := [.ref 93, .int x1, .int x2, .int x3, .int x4, .int x5, .int x6, .int x7, .int x8, .int v4, vU]) (S := []) (z := (zS I5 J6 tg)) rfl c13 ?_
        refine Runs.sN 8 (c' := (150, [.ref 93, .int x1, .int x2, .int x3, .int x4, .int x5, .int x6, .int x7, .int x8, .int v4, .int (v4 - 12)], [.int (v4 - 12), .ref 113, .int x7], (zS I5 J6 tg))) rfl ?_
        obtain ⟨c14, h⟩ := h
        refine Runs.to (c' := (151, [.ref 93, .int x1, .int x2, .int x3, .int x4, .int x5, .int x6, .int x7, .int x8, .int v4, .int (v4 - 12)], [.int (I5 113 ((v4 - 12).toNatClampNeg)), .int x7], (zS I5 J6 tg))) (Runs.zld rfl (show (113 : Nat) < 114 by decide) rfl c14) ?_
        by_cases c15 : (I5 113 ((v4 - 12).toNatClampNeg)) = 0
        · rw [if_pos c15] at h
          refine Runs.brT (P := (I5 113 ((v4 - 12).toNatClampNeg)) = 0) (a := 158) (b := 154) (L := [.ref 93, .int x1, .int x2, .int x3, .int x4, .int x5, .int x6, .int x7, .int x8, .int v4, .int (v4 - 12)]) (S := [.int x7]) (z := (zS I5 J6 tg)) rfl c15 ?_
          refine Runs.sN 7 (c' := (169, [.ref 93, .int x1, .int x2, .int x3, .int x4, .int x5, .int x6, .int (x7 + 1), .int x8, .int v4, .int (v4 - 12)], [.int 1, .int (v4 - 12), .ref 113], (zS I5 J6 tg))) rfl ?_
          obtain ⟨c16, h⟩ := h
          obtain ⟨c17, h⟩ := h
          refine Runs.to (c' := (170, [.ref 93, .int x1, .int x2, .int x3, .int x4, .int x5, .int x6, .int (x7 + 1), .int x8, .int v4, .int (v4 - 12)], [], (zS (up2 I5 113 ((v4 - 12).toNatClampNeg) 1) J6 tg))) (Runs.zst rfl (show (113 : Nat) < 114 by decide) rfl c16 c17) ?_
          refine Runs.sN 2 (c' := (93, [.ref 93, .int x1, .int x2, .int x3, .int x4, .int x5, .int x6, .int (x7 + 1), .int (x8 + 1), .int v4, .int (v4 - 12)], [], (zS (up2 I5 113 ((v4 - 12).toNatClampNeg) 1) J6 tg))) rfl ?_
          exact Runs.weak (L := [.ref 93, .int x1, .int x2, .int x3, .int x4, .int x5, .int x6, .int (x7 + 1), .int (x8 + 1), vU, vU]) (Lle.k (Lle.k (Lle.k (Lle.k (Lle.k (Lle.k (Lle.k (Lle.k (Lle.k (Lle.u (Lle.u Lle.n))))))))))) h
        · rw [if_neg c15] at h
          refine Runs.brF (P := (I5 113 ((v4 - 12).toNatClampNeg)) = 0) (a := 158) (b := 154) (L := [.ref 93, .int x1, .int x2, .int x3, .int x4, .int x5, .int x6, .int x7, .int x8, .int v4, .int (v4 - 12)]) (S := [.int x7]) (z := (zS I5 J6 tg)) rfl c15 ?_
          refine Runs.sN 8 (c' := (169, [.ref 93, .int x1, .int x2, .int x3, .int x4, .int x5, .int x6, .int (x7 + 0), .int x8, .int v4, .int (v4 - 12)], [.int 1, .int (v4 - 12), .ref 113], (zS I5 J6 tg))) rfl ?_
          obtain ⟨c18, h⟩ := h
          obtain ⟨c19, h⟩ := h
          refine Runs.to (c' := (170, [.ref 93, .int x1, .int x2, .int x3, .int x4, .int x5, .int x6, .int (x7 + 0), .int x8, .int v4, .int (v4 - 12)], [], (zS (up2 I5 113 ((v4 - 12).toNatClampNeg) 1) J6 tg))) (Runs.zst rfl (show (113 : Nat) < 114 by decide) rfl c18 c19) ?_
          refine Runs.sN 2 (c' := (93, [.ref 93, .int x1, .int x2, .int x3, .int x4, .int x5, .int x6, .int (x7 + 0), .int (x8 + 1), .int v4, .int (v4 - 12)], [], (zS (up2 I5 113 ((v4 - 12).toNatClampNeg) 1) J6 tg))) rfl ?_
          exact Runs.weak (L := [.ref 93, .int x1, .int x2, .int x3, .int x4, .int x5, .int x6, .int (x7 + 0), .int (x8 + 1), vU, vU]) (Lle.k (Lle.k (Lle.k (Lle.k (Lle.k (Lle.k (Lle.k (Lle.k (Lle.k (Lle.u (Lle.u Lle.n))))))))))) h
      · rw [if_neg c13] at h
        refine Runs.brF (P := 0 ≤ v4) (a := 135) (b := 130) (L := [.ref 93, .int x1, .int x2, .int x3, .int x4, .int x5, .int x6, .int x7, .int x8, .int v4, vU]) (S := []) (z := (zS I5 J6 tg)) rfl c13 ?_
        refine Runs.sN 8 (c' := (151, [.ref 93, .int x1, .int x2, .int x3, .int x4, .int x5, .int x6, .int x7, .int x8, .int v4, .int 12], [.int (I5 113 12), .int x7], (zS I5 J6 tg))) rfl ?_
        by_cases c20 : (I5 113 12) = 0
        · rw [if_pos c20] at h
          refine Runs.brT (P := (I5 113 12) = 0) (a := 158) (b := 154) (L := [.ref 93, .int x1, .int x2, .int x3, .int x4, .int x5, .int x6, .int x7, .int x8, .int v4, .int 12]) (S := [.int x7]) (z := (zS I5 J6 tg)) rfl c20 ?_
          refine Runs.sN 7 (c' := (169, [.ref 93, .int x1, .int x2, .int x3, .int x4, .int x5, .int x6, .int (x7 + 1), .int x8, .int v4, .int 12], [.int 1, .int 12, .ref 113], (zS I5 J6 tg))) rfl ?_
          obtain ⟨c21, h⟩ := h
          obtain ⟨c22, h⟩ := h
          refine Runs.to (c' := (170, [.ref 93, .int x1, .int x2, .int x3, .int x4, .int x5, .int x6, .int (x7 + 1), .int x8, .int v4, .int 12], [], (zS (up2 I5 113 (((12 : Int32)).toNatClampNeg) 1) J6 tg))) (Runs.zst rfl (show (113 : Nat) < 114 by decide) rfl c21 c22) ?_
          refine Runs.sN 2 (c' := (93, [.ref 93, .int x1, .int x2, .int x3, .int x4, .int x5, .int x6, .int (x7 + 1), .int (x8 + 1), .int v4, .int 12], [], (zS (up2 I5 113 (((12 : Int32)).toNatClampNeg) 1) J6 tg))) rfl ?_
          exact Runs.weak (L := [.ref 93, .int x1, .int x2, .int x3, .int x4, .int x5, .int x6, .int (x7 + 1), .int (x8 + 1), vU, vU]) (Lle.k (Lle.k (Lle.k (Lle.k (Lle.k (Lle.k (Lle.k (Lle.k (Lle.k (Lle.u (Lle.u Lle.n))))))))))) h
        · rw [if_neg c20] at h
          refine Runs.brF (P := (I5 113 12) = 0) (a := 158) (b := 154) (L := [.ref 93, .int x1, .int x2, .int x3, .int x4, .int x5, .int x6, .int x7, .int x8, .int v4, .int 12]) (S := [.int x7]) (z := (zS I5 J6 tg)) rfl c20 ?_
          refine Runs.sN 8 (c' := (169, [.ref 93, .int x1, .int x2, .int x3, .int x4, .int x5, .int x6, .int (x7 + 0), .int x8, .int v4, .int 12], [.int 1, .int 12, .ref 113], (zS I5 J6 tg))) rfl ?_
          obtain ⟨c23, h⟩ := h
          obtain ⟨c24, h⟩ := h
          refine Runs.to (c' := (170, [.ref 93, .int x1, .int x2, .int x3, .int x4, .int x5, .int x6, .int (x7 + 0), .int x8, .int v4, .int 12], [], (zS (up2 I5 113 (((12 : Int32)).toNatClampNeg) 1) J6 tg))) (Runs.zst rfl (show (113 : Nat) < 114 by decide) rfl c23 c24) ?_
          refine Runs.sN 2 (c' := (93, [.ref 93, .int x1, .int x2, .int x3, .int x4, .int x5, .int x6, .int (x7 + 0), .int (x8 + 1), .int v4, .int 12], [], (zS (up2 I5 113 (((12 : Int32)).toNatClampNeg) 1) J6 tg))) rfl ?_
          exact Runs.weak (L := [.ref 93, .int x1, .int x2, .int x3, .int x4, .int x5, .int x6, .int (x7 + 0), .int (x8 + 1), vU, vU]) (Lle.k (Lle.k (Lle.k (Lle.k (Lle.k (Lle.k (Lle.k (Lle.k (Lle.k (Lle.u (Lle.u Lle.n))))))))))) h
-- X12_isMended 
theorem sg_295 {L d : Nat} {xs : Nat → Int32} (I : Nat → Nat → Int32) (J : Nat → Nat → Int64) (tg : Option Nat) (a1 : Int32) (a2 : Int32) (a3 : Int32) (a4 : Int32) (a5 : Int32) {r : Option Value × SS} (h : ((if a4 < 0 then (∃ (I31 : Nat → Nat → Int32) (J32 : Nat → Nat → Int64), Runs (GW L xs) d 257 (0, [.ref 93, .int a1, vU], [], (zS I J tg)) (none, (zS I31 J32 tg)) ∧ Runs (GW L xs) (d + 1) 295 (25, [.ref 93, .int a1, .int a2, .int a3, .int a4, .int a5, .int 0], [], (zS I31 J32 tg)) r) else (∃ (v33 : Int32) (I34 : Nat → Nat → Int32) (J35 : Nat → Nat → Int64), Runs (GW L xs) d 188 (0, [.ref 93, .int a1, .int a4, vU], [], (zS I J tg)) ((some (.int v33)), (zS I34 J35 tg)) ∧ (if v33 = 0 then (∃ (I36 : Nat → Nat → Int32) (J37 : Nat → Nat → Int64), Runs (GW L xs) d 257 (0, [.ref 93, .int a1, vU], [], (zS I34 J35 tg)) (none, (zS I36 J37 tg)) ∧ Runs (GW L xs) (d + 1) 295 (25, [.ref 93, .int a1, .int a2, .int a3, .int a4, .int a5, .int 0], [], (zS I36 J37 tg)) r) else (r = (some (.int 0), (zS I34 J35 tg)))))))) : Runs (GW L xs) (d + 1) 295 (0, [.ref 93, .int a1, .int a2, .int a3, .int a4, .int a5, vU], [], (zS I J tg)) r := by
  refine Runs.sN 1 (c' := (2, [.ref 93, .int a1, .int a2, .int a3, .int a4, .int a5, vU], [.int a4], (zS I J tg))) rfl ?_
  by_cases c38 : a4 < 0
  · rw [if_pos c38] at h
    refine Runs.brT (P := a4 < 0) (a := 17) (b := 5) (L := [.ref 93, .int a1, .int a2, .int a3, .int a4, .int a5, vU]) (S := []) (z := (zS I J tg)) rfl c38 ?_
    refine Runs.sN 2 (c' := (19, [.ref 93, .int a1, .int a2, .int a3, .int a4, .int a5, vU], [.int a1, .ref 93], (zS I J tg))) rfl ?_
    obtain ⟨I31, J32, c39, h⟩ := h
    refine Runs.cl (cm := 257) (as := [.ref 93, .int a1]) (rest := []) (r1 := (none, (zS I31 J32 tg))) rfl (Nat.le_of_ble_eq_true rfl) c39 ?_
    refine Runs.as (c' := (22, [.ref 93, .int a1, .int a2, .int a3, .int a4, .int a5, vU], [], (zS I31 J32 tg))) rfl ?_
    refine Runs.sN 2 (c' := (25, [.ref 93, .int a1, .int a2, .int a3, .int a4, .int a5, .int 0], [], (zS I31 J32 tg))) rfl ?_
    exact h
  · rw [if_neg c38] at h
    refine Runs.brF (P := a4 < 0) (a := 17) (b := 5) (L := [.ref 93, .int a1, .int a2, .int a3, .int a4, .int a5, vU]) (S := []) (z := (zS I J tg)) rfl c38 ?_
    refine Runs.sN 3 (c' := (9, [.ref 93, .int a1, .int a2, .int a3, .int a4, .int a5, vU], [.int a4, .int a1, .ref 93], (zS I J tg))) rfl ?_
    obtain ⟨v33, I34, J35, c40, h⟩ := h
    refine Runs.cl (cm := 188) (as := [.ref 93, .int a1, .int a4]) (rest := []) (r1 := ((some (.int v33)), (zS I34 J35 tg))) rfl (Nat.le_of_ble_eq_true rfl) c40 ?_
    refine Runs.as (c' := (12, [.ref 93, .int a1, .int a2, .int a3, .int a4, .int a5, vU], [.int v33], (zS I34 J35 tg))) rfl ?_
    by_cases c41 : v33 = 0
    · rw [if_pos c41] at h
      refine Runs.brT (P := v33 = 0) (a := 17) (b := 15) (L := [.ref 93, .int a1, .int a2, .int a3, .int a4, .int a5, vU]) (S := []) (z := (zS I34 J35 tg)) rfl c41 ?_
      refine Runs.sN 2 (c' := (19, [.ref 93, .int a1, .int a2, .int a3, .int a4, .int a5, vU], [.int a1, .ref 93], (zS I34 J35 tg))) rfl ?_
      obtain ⟨I36, J37, c42, h⟩ := h
      refine Runs.cl (cm := 257) (as := [.ref 93, .int a1]) (rest := []) (r1 := (none, (zS I36 J37 tg))) rfl (Nat.le_of_ble_eq_true rfl) c42 ?_
      refine Runs.as (c' := (22, [.ref 93, .int a1, .int a2, .int a3, .int a4, .int a5, vU], [], (zS I36 J37 tg))) rfl ?_
      refine Runs.sN 2 (c' := (25, [.ref 93, .int a1, .int a2, .int a3, .int a4, .int a5, .int 0], [], (zS I36 J37 tg))) rfl ?_
      exact h
    · rw [if_neg c41] at h
      refine Runs.brF (P := v33 = 0) (a := 17) (b := 15) (L := [.ref 93, .int a1, .int a2, .int a3, .int a4, .int a5, vU]) (S := []) (z := (zS I34 J35 tg)) rfl c41 ?_
      refine Runs.sN 1 (c' := (16, [.ref 93, .int a1, .int a2, .int a3, .int a4, .int a5, vU], [.int 0], (zS I34 J35 tg))) rfl ?_
      subst h
      exact Runs.rt rfl
theorem sg_295_25 {L d : Nat} {xs : Nat → Int32} (I : Nat → Nat → Int32) (J : Nat → Nat → Int64) (tg : Option Nat) (x1 : Int32) (x2 : Int32) (x3 : Int32) (x4 : Int32) (x5 : Int32) (x6 : Int32) {r : Option Value × SS} (h : (∃ (v1 : Int32) (I2 : Nat → Nat → Int32) (J3 : Nat → Nat → Int64), Runs (GW L xs) d 184 (0, [.ref 93, .int x1, .int 0], [], (zS I J tg)) ((some (.int v1)), (zS I2 J3 tg)) ∧ (if v1 ≤ x6 then (∃ (v4 : Int32) (I5 : Nat → Nat → Int32) (J6 : Nat → Nat → Int64), Runs (GW L xs) d 197 (0, [.ref 93, .int 24, .int x2, vU, vU, vU, vU, vU, vU, vU], [], (zS I2 J3 tg)) ((some (.int v4)), (zS I5 J6 tg)) ∧ (if v4 < x5 then (r = (some (.int 0), (zS (up2 I5 93 39 v4) J6 tg))) else (∃ (v7 : Int32) (I8 : Nat → Nat → Int32) (J9 : Nat → Nat → Int64), Runs (GW L xs) d 243 (0, [.ref 93, .int 24], [], (zS (up2 I5 93 39 v4) J6 tg)) ((some (.int v7)), (zS I8 J9 tg)) ∧ (if v7 = 0 then (r = (some (.int 0), (zS I8 J9 tg))) else (r = (some (.int 1), (zS I8 J9 tg))))))) else ((if x6 = x3 then ((if x4 < 0 then (Runs (GW L xs) (d + 1) 295 (25, [.ref 93, .int x1, .int x2, .int x3, .int x4, .int x5, .int (x6 + 1)], [], (zS I2 J3 tg)) r) else (∃ (I10 : Nat → Nat → Int32) (J11 : Nat → Nat → Int64), Runs (GW L xs) d 189 (0, [.ref 93, .int 24, .int x4, vU], [], (zS I2 J3 tg)) (none, (zS I10 J11 tg)) ∧ Runs (GW L xs) (d + 1) 295 (25, [.ref 93, .int x1, .int x2, .int x3, .int x4, .int x5, .int (x6 + 1)], [], (zS I10 J11 tg)) r))) else (∃ (v12 : Int32) (I13 : Nat → Nat → Int32) (J14 : Nat → Nat → Int64), Runs (GW L xs) d 184 (0, [.ref 93, .int x1, .int (4 + x6)], [], (zS I2 J3 tg)) ((some (.int v12)), (zS I13 J14 tg)) ∧ ∃ (I15 : Nat → Nat → Int32) (J16 : Nat → Nat → Int64), Runs (GW L xs) d 189 (0, [.ref 93, .int 24, .int v12, vU], [], (zS I13 J14 tg)) (none, (zS I15 J16 tg)) ∧ Runs (GW L xs) (d + 1) 295 (25, [.ref 93, .int x1, .int x2, .int x3, .int x4, .int x5, .int (x6 + 1)], [], (zS I15 J16 tg)) r)))))) : Runs (GW L xs) (d + 1) 295 (25, [.ref 93, .int x1, .int x2, .int x3, .int x4, .int x5, .int x6], [], (zS I J tg)) r := by
  refine Runs.sN 4 (c' := (30, [.ref 93, .int x1, .int x2, .int x3, .int x4, .int x5, .int x6], [.int 0, .int x1, .ref 93, .int x6], (zS I J tg))) rfl ?_
  obtain ⟨v1, I2, J3, c17, h⟩ := h
  refine Runs.cl (cm := 184) (as := [.ref 93, .int x1, .int 0]) (rest := [.int x6]) (r1 := ((some (.int v1)), (zS I2 J3 tg))) rfl (Nat.le_of_ble_eq_true rfl) c17 ?_
  refine Runs.as (c' := (33, [.ref 93, .int x1, .int x2, .int x3, .int x4, .int x5, .int x6], [.int v1, .int x6], (zS I2 J3 tg))) rfl ?_
  by_cases c18 : v1 ≤ x6
  · rw [if_pos c18] at h
    refine Runs.brT (P := v1 ≤ x6) (a := 79) (b := 36) (L := [.ref 93, .int x1, .int x2, .int x3, .int x4, .int x5, .int x6]) (S := []) (z := (zS I2 J3 tg)) rfl c18 ?_
    refine Runs.sN 4 (c' := (84, [.ref 93, .int x1, .int x2, .int x3, .int x4, .int x5, .int x6], [.int x2, .int 24, .ref 93, .ref 93], (zS I2 J3 tg))) rfl ?_
    obtain ⟨v4, I5, J6, c19, h⟩ := h
    refine Runs.cl (cm := 197) (as := [.ref 93, .int 24, .int x2]) (rest := [.ref 93]) (r1 := ((some (.int v4)), (zS I5 J6 tg))) rfl (Nat.le_of_ble_eq_true rfl) c19 ?_
    refine Runs.as (c' := (87, [.ref 93, .int x1, .int x2, .int x3, .int x4, .int x5, .int x6], [.int v4, .ref 93], (zS I5 J6 tg))) rfl ?_
    refine Runs.sN 4 (c' := (96, [.ref 93, .int x1, .int x2, .int x3, .int x4, .int x5, .int x6], [.int x5, .int v4], (zS (up2 I5 93 39 v4) J6 tg))) rfl ?_
    by_cases c20 : v4 < x5
    · rw [if_pos c20] at h
      refine Runs.brT (P := v4 < x5) (a := 112) (b := 99) (L := [.ref 93, .int x1, .int x2, .int x3, .int x4, .int x5, .int x6]) (S := []) (z := (zS (up2 I5 93 39 v4) J6 tg)) rfl c20 ?_
      refine Runs.sN 1 (c' := (113, [.ref 93, .int x1, .int x2, .int x3, .int x4, .int x5, .int x6], [.int 0], (zS (up2 I5 93 39 v4) J6 tg))) rfl ?_
      subst h
      exact Runs.rt rfl
    · rw [if_neg c20] at h
      refine Runs.brF (P := v4 < x5) (a := 112) (b := 99) (L := [.ref 93, .int x1, .int x2, .int x3, .int x4, .int x5, .int x6]) (S := []) (z := (zS (up2 I5 93 39 v4) J6 tg)) rfl c20 ?_
      refine Runs.sN 2 (c' := (102, [.ref 93, .int x1, .int x2, .int x3, .int x4, .int x5, .int x6], [.int 24, .ref 93], (zS (up2 I5 93 39 v4) J6 tg))) rfl ?_
      obtain ⟨v7, I8, J9, c21, h⟩ := h
      refine Runs.cl (cm := 243) (as := [.ref 93, .int 24]) (rest := []) (r1 := ((some (.int v7)), (zS I8 J9 tg))) rfl (Nat.le_of_ble_eq_true rfl) c21 ?_
      refine Runs.as (c' := (105, [.ref 93, .int x1, .int x2, .int x3, .int x4, .int x5, .int x6], [.int v7], (zS I8 J9 tg))) rfl ?_
      by_cases c22 : v7 = 0
      · rw [if_pos c22] at h
        refine Runs.brT (P := v7 = 0) (a := 112) (b := 108) (L := [.ref 93, .int x1, .int x2, .int x3, .int x4, .int x5, .int x6]) (S := []) (z := (zS I8 J9 tg)) rfl c22 ?_
        refine Runs.sN 1 (c' := (113, [.ref 93, .int x1, .int x2, .int x3, .int x4, .int x5, .int x6], [.int 0], (zS I8 J9 tg))) rfl ?_
        subst h
        exact Runs.rt rfl
      · rw [if_neg c22] at h
        refine Runs.brF (P := v7 = 0) (a := 112) (b := 108) (L := [.ref 93, .int x1, .int x2, .int x3, .int x4, .int x5, .int x6]) (S := []) (z := (zS I8 J9 tg)) rfl c22 ?_
        refine Runs.sN 2 (c' := (113, [.ref 93, .int x1, .int x2, .int x3, .int x4, .int x5, .int x6], [.int 1], (zS I8 J9 tg))) rfl ?_
        subst h
        exact Runs.rt rfl
  · rw [if_neg c18] at h
    refine Runs.brF (P := v1 ≤ x6) (a := 79) (b := 36) (L := [.ref 93, .int x1, .int x2, .int x3, .int x4, .int x5, .int x6]) (S := []) (z := (zS I2 J3 tg)) rfl c18 ?_
    refine Runs.sN 2 (c' := (39, [.ref 93, .int x1, .int x2, .int x3, .int x4, .int x5, .int x6], [.int x3, .int x6], (zS I2 J3 tg))) rfl ?_
    by_cases c23 : x6 = x3
    · rw [if_pos c23] at h
      refine Runs.brT (P := x6 = x3) (a := 60) (b := 42) (L := [.ref 93, .int x1, .int x2, .int x3, .int x4, .int x5, .int x6]) (S := []) (z := (zS I2 J3 tg)) rfl c23 ?_
      refine Runs.sN 1 (c' := (62, [.ref 93, .int x1, .int x2, .int x3, .int x4, .int x5, .int x6], [.int x4], (zS I2 J3 tg))) rfl ?_
      by_cases c24 : x4 < 0
      · rw [if_pos c24] at h
        refine Runs.brT (P := x4 < 0) (a := 73) (b := 65) (L := [.ref 93, .int x1, .int x2, .int x3, .int x4, .int x5, .int x6]) (S := []) (z := (zS I2 J3 tg)) rfl c24 ?_
        refine Runs.sN 2 (c' := (25, [.ref 93, .int x1, .int x2, .int x3, .int x4, .int x5, .int (x6 + 1)], [], (zS I2 J3 tg))) rfl ?_
        exact h
      · rw [if_neg c24] at h
        refine Runs.brF (P := x4 < 0) (a := 73) (b := 65) (L := [.ref 93, .int x1, .int x2, .int x3, .int x4, .int x5, .int x6]) (S := []) (z := (zS I2 J3 tg)) rfl c24 ?_
        refine Runs.sN 3 (c' := (70, [.ref 93, .int x1, .int x2, .int x3, .int x4, .int x5, .int x6], [.int x4, .int 24, .ref 93], (zS I2 J3 tg))) rfl ?_
        obtain ⟨I10, J11, c25, h⟩ := h
        refine Runs.cl (cm := 189) (as := [.ref 93, .int 24, .int x4]) (rest := []) (r1 := (none, (zS I10 J11 tg))) rfl (Nat.le_of_ble_eq_true rfl) c25 ?_
        refine Runs.as (c' := (73, [.ref 93, .int x1, .int x2, .int x3, .int x4, .int x5, .int x6], [], (zS I10 J11 tg))) rfl ?_
        refine Runs.sN 2 (c' := (25, [.ref 93, .int x1, .int x2, .int x3, .int x4, .int x5, .int (x6 + 1)], [], (zS I10 J11 tg))) rfl ?_
        exact h
    · rw [if_neg c23] at h
      refine Runs.brF (P := x6 = x3) (a := 60) (b := 42) (L := [.ref 93, .int x1, .int x2, .int x3, .int x4, .int x5, .int x6]) (S := []) (z := (zS I2 J3 tg)) rfl c23 ?_
      refine Runs.sN 7 (c' := (51, [.ref 93, .int x1, .int x2, .int x3, .int x4, .int x5, .int x6], [.int (4 + x6), .int x1, .ref 93, .int 24, .ref 93], (zS I2 J3 tg))) rfl ?_
      obtain ⟨v12, I13, J14, c26, h⟩ := h
      refine Runs.cl (cm := 184) (as := [.ref 93, .int x1, .int (4 + x6)]) (rest := [.int 24, .ref 93]) (r1 := ((some (.int v12)), (zS I13 J14 tg))) rfl (Nat.le_of_ble_eq_true rfl) c26 ?_
      refine Runs.as (c' := (54, [.ref 93, .int x1, .int x2, .int x3, .int x4, .int x5, .int x6], [.int v12, .int 24, .ref 93], (zS I13 J14 tg))) rfl ?_
      obtain ⟨I15, J16, c27, h⟩ := h
      refine Runs.cl (cm := 189) (as := [.ref 93, .int 24, .int v12]) (rest := []) (r1 := (none, (zS I15 J16 tg))) rfl (Nat.le_of_ble_eq_true rfl) c27 ?_
      refine Runs.as (c' := (57, [.ref 93, .int x1, .int x2, .int x3, .int x4, .int x5, .int x6], [], (zS I15 J16 tg))) rfl ?_
      refine Runs.sN 3 (c' := (25, [.ref 93, .int x1, .int x2, .int x3, .int x4, .int x5, .int (x6 + 1)], [], (zS I15 J16 tg))) rfl ?_
      exact h
