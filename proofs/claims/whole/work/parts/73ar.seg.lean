-- X12_best 
theorem sg_287 {L d : Nat} {xs : Nat → Int32} (I : Nat → Nat → Int32) (J : Nat → Nat → Int64) (tg : Option Nat) (a1 : Int32) (a2 : Int32) (a3 : Int32) {r : Option Value × SS} (h : (∃ (v29 : Int32) (I30 : Nat → Nat → Int32) (J31 : Nat → Nat → Int64) (tg32 : Option Nat), Runs (GW L xs) d 260 (0, [.ref 93, .int a1], [], (zS I J tg)) ((some (.int v29)), (zS I30 J31 tg32)) ∧ (if v29 = 0 then (r = (some (.int (-1)), (zS I30 J31 tg32))) else (∃ (v33 : Int32) (I34 : Nat → Nat → Int32) (J35 : Nat → Nat → Int64) (tg36 : Option Nat), Runs (GW L xs) d 182 (0, [.int a2], [], (zS I30 J31 tg32)) ((some (.int v33)), (zS I34 J35 tg36)) ∧ (if v33 = 0 then (r = (some (.int (-1)), (zS I34 J35 tg36))) else (∃ (v37 : Int32) (I38 : Nat → Nat → Int32) (J39 : Nat → Nat → Int64) (tg40 : Option Nat), Runs (GW L xs) d 177 (0, [.int a3, .int 0, .int (I34 94 2)], [], (zS I34 J35 tg36)) ((some (.int v37)), (zS I38 J39 tg40)) ∧ (if v37 = 0 then (r = (some (.int (-1)), (zS I38 J39 tg40))) else (Runs (GW L xs) (d + 1) 287 (40, [.ref 93, .int a1, .int a2, .int a3, .int (-1), .int 0, .int 0, vU], [], (zS I38 J39 tg40)) r)))))))) : Runs (GW L xs) (d + 1) 287 (0, [.ref 93, .int a1, .int a2, .int a3, vU, vU, vU, vU], [], (zS I J tg)) r := by
  refine Runs.sN 2 (c' := (2, [.ref 93, .int a1, .int a2, .int a3, vU, vU, vU, vU], [.int a1, .ref 93], (zS I J tg))) rfl ?_
  obtain ⟨v29, I30, J31, tg32, c41, h⟩ := h
  refine Runs.cl (cm := 260) (as := [.ref 93, .int a1]) (rest := []) (r1 := ((some (.int v29)), (zS I30 J31 tg32))) rfl (Nat.le_of_ble_eq_true rfl) c41 ?_
  refine Runs.as (c' := (5, [.ref 93, .int a1, .int a2, .int a3, vU, vU, vU, vU], [.int v29], (zS I30 J31 tg32))) rfl ?_
  by_cases c42 : v29 = 0
  · rw [if_pos c42] at h
    refine Runs.brT (P := v29 = 0) (a := 29) (b := 8) (L := [.ref 93, .int a1, .int a2, .int a3, vU, vU, vU, vU]) (S := []) (z := (zS I30 J31 tg32)) rfl c42 ?_
    refine Runs.sN 1 (c' := (30, [.ref 93, .int a1, .int a2, .int a3, vU, vU, vU, vU], [.int (-1)], (zS I30 J31 tg32))) rfl ?_
    subst h
    exact Runs.rt rfl
  · rw [if_neg c42] at h
    refine Runs.brF (P := v29 = 0) (a := 29) (b := 8) (L := [.ref 93, .int a1, .int a2, .int a3, vU, vU, vU, vU]) (S := []) (z := (zS I30 J31 tg32)) rfl c42 ?_
    refine Runs.sN 1 (c' := (9, [.ref 93, .int a1, .int a2, .int a3, vU, vU, vU, vU], [.int a2], (zS I30 J31 tg32))) rfl ?_
    obtain ⟨v33, I34, J35, tg36, c43, h⟩ := h
    refine Runs.cl (cm := 182) (as := [.int a2]) (rest := []) (r1 := ((some (.int v33)), (zS I34 J35 tg36))) rfl (Nat.le_of_ble_eq_true rfl) c43 ?_
    refine Runs.as (c' := (12, [.ref 93, .int a1, .int a2, .int a3, vU, vU, vU, vU], [.int v33], (zS I34 J35 tg36))) rfl ?_
    by_cases c44 : v33 = 0
    · rw [if_pos c44] at h
      refine Runs.brT (P := v33 = 0) (a := 29) (b := 15) (L := [.ref 93, .int a1, .int a2, .int a3, vU, vU, vU, vU]) (S := []) (z := (zS I34 J35 tg36)) rfl c44 ?_
      refine Runs.sN 1 (c' := (30, [.ref 93, .int a1, .int a2, .int a3, vU, vU, vU, vU], [.int (-1)], (zS I34 J35 tg36))) rfl ?_
      subst h
      exact Runs.rt rfl
    · rw [if_neg c44] at h
      refine Runs.brF (P := v33 = 0) (a := 29) (b := 15) (L := [.ref 93, .int a1, .int a2, .int a3, vU, vU, vU, vU]) (S := []) (z := (zS I34 J35 tg36)) rfl c44 ?_
      refine Runs.sN 6 (c' := (23, [.ref 93, .int a1, .int a2, .int a3, vU, vU, vU, vU], [.int (I34 94 2), .int 0, .int a3], (zS I34 J35 tg36))) rfl ?_
      obtain ⟨v37, I38, J39, tg40, c45, h⟩ := h
      refine Runs.cl (cm := 177) (as := [.int a3, .int 0, .int (I34 94 2)]) (rest := []) (r1 := ((some (.int v37)), (zS I38 J39 tg40))) rfl (Nat.le_of_ble_eq_true rfl) c45 ?_
      refine Runs.as (c' := (26, [.ref 93, .int a1, .int a2, .int a3, vU, vU, vU, vU], [.int v37], (zS I38 J39 tg40))) rfl ?_
      by_cases c46 : v37 = 0
      · rw [if_pos c46] at h
        refine Runs.brT (P := v37 = 0) (a := 29) (b := 31) (L := [.ref 93, .int a1, .int a2, .int a3, vU, vU, vU, vU]) (S := []) (z := (zS I38 J39 tg40)) rfl c46 ?_
        refine Runs.sN 1 (c' := (30, [.ref 93, .int a1, .int a2, .int a3, vU, vU, vU, vU], [.int (-1)], (zS I38 J39 tg40))) rfl ?_
        subst h
        exact Runs.rt rfl
      · rw [if_neg c46] at h
        refine Runs.brF (P := v37 = 0) (a := 29) (b := 31) (L := [.ref 93, .int a1, .int a2, .int a3, vU, vU, vU, vU]) (S := []) (z := (zS I38 J39 tg40)) rfl c46 ?_
        refine Runs.sN 6 (c' := (40, [.ref 93, .int a1, .int a2, .int a3, .int (-1), .int 0, .int 0, vU], [], (zS I38 J39 tg40))) rfl ?_
        exact h
theorem sg_287_40 {L d : Nat} {xs : Nat → Int32} (I : Nat → Nat → Int32) (J : Nat → Nat → Int64) (tg : Option Nat) (x1 : Int32) (x2 : Int32) (x3 : Int32) (x4 : Int32) (x5 : Int32) (x6 : Int32) {r : Option Value × SS} (h : ((if 12 ≤ x6 then (r = (some (.int x4), (zS I J tg))) else ((if ((x1 >>> (x6 &&& 31)) &&& 1) = 0 then (Runs (GW L xs) (d + 1) 287 (40, [.ref 93, .int x1, .int x2, .int x3, .int x4, .int x5, .int (x6 + 1), vU], [], (zS I J tg)) r) else (∃ (v1 : Int32) (I2 : Nat → Nat → Int32) (J3 : Nat → Nat → Int64) (tg4 : Option Nat), Runs (GW L xs) d 285 (0, [.ref 93, .int x6, .int x2, .int x3, vU, vU, vU, vU], [], (zS I J tg)) ((some (.int v1)), (zS I2 J3 tg4)) ∧ (if x4 < 0 then (Runs (GW L xs) (d + 1) 287 (40, [.ref 93, .int x1, .int x2, .int x3, .int x6, .int v1, .int (x6 + 1), vU], [], (zS I2 J3 tg4)) r) else ((if v1 < x5 then (Runs (GW L xs) (d + 1) 287 (40, [.ref 93, .int x1, .int x2, .int x3, .int x6, .int v1, .int (x6 + 1), vU], [], (zS I2 J3 tg4)) r) else (Runs (GW L xs) (d + 1) 287 (40, [.ref 93, .int x1, .int x2, .int x3, .int x4, .int x5, .int (x6 + 1), vU], [], (zS I2 J3 tg4)) r)))))))))) : Runs (GW L xs) (d + 1) 287 (40, [.ref 93, .int x1, .int x2, .int x3, .int x4, .int x5, .int x6, vU], [], (zS I J tg)) r := by
  refine Runs.sN 2 (c' := (44, [.ref 93, .int x1, .int x2, .int x3, .int x4, .int x5, .int x6, vU], [.int 12, .int x6], (zS I J tg))) rfl ?_
  by_cases c5 : 12 ≤ x6
  · rw [if_pos c5] at h
    refine Runs.brT (P := 12 ≤ x6) (a := 98) (b := 47) (L := [.ref 93, .int x1, .int x2, .int x3, .int x4, .int x5, .int x6, vU]) (S := []) (z := (zS I J tg)) rfl c5 ?_
    refine Runs.sN 1 (c' := (100, [.ref 93, .int x1, .int x2, .int x3, .int x4, .int x5, .int x6, vU], [.int x4], (zS I J tg))) rfl ?_
    subst h
    exact Runs.rt rfl
  · rw [if_neg c5] at h
    refine Runs.brF (P := 12 ≤ x6) (a := 98) (b := 47) (L := [.ref 93, .int x1, .int x2, .int x3, .int x4, .int x5, .int x6, vU]) (S := []) (z := (zS I J tg)) rfl c5 ?_
    refine Runs.sN 5 (c' := (53, [.ref 93, .int x1, .int x2, .int x3, .int x4, .int x5, .int x6, vU], [.int ((x1 >>> (x6 &&& 31)) &&& 1)], (zS I J tg))) rfl ?_
    by_cases c6 : ((x1 >>> (x6 &&& 31)) &&& 1) = 0
    · rw [if_pos c6] at h
      refine Runs.brT (P := ((x1 >>> (x6 &&& 31)) &&& 1) = 0) (a := 56) (b := 59) (L := [.ref 93, .int x1, .int x2, .int x3, .int x4, .int x5, .int x6, vU]) (S := []) (z := (zS I J tg)) rfl c6 ?_
      refine Runs.sN 3 (c' := (40, [.ref 93, .int x1, .int x2, .int x3, .int x4, .int x5, .int (x6 + 1), vU], [], (zS I J tg))) rfl ?_
      exact h
    · rw [if_neg c6] at h
      refine Runs.brF (P := ((x1 >>> (x6 &&& 31)) &&& 1) = 0) (a := 56) (b := 59) (L := [.ref 93, .int x1, .int x2, .int x3, .int x4, .int x5, .int x6, vU]) (S := []) (z := (zS I J tg)) rfl c6 ?_
      refine Runs.sN 4 (c' := (64, [.ref 93, .int x1, .int x2, .int x3, .int x4, .int x5, .int x6, vU], [.int x3, .int x2, .int x6, .ref 93], (zS I J tg))) rfl ?_
      obtain ⟨v1, I2, J3, tg4, c7, h⟩ := h
      refine Runs.cl (cm := 285) (as := [.ref 93, .int x6, .int x2, .int x3]) (rest := []) (r1 := ((some (.int v1)), (zS I2 J3 tg4))) rfl (Nat.le_of_ble_eq_true rfl) c7 ?_
      refine Runs.as (c' := (67, [.ref 93, .int x1, .int x2, .int x3, .int x4, .int x5, .int x6, vU], [.int v1], (zS I2 J3 tg4))) rfl ?_
      refine Runs.sN 2 (c' := (71, [.ref 93, .int x1, .int x2, .int x3, .int x4, .int x5, .int x6, .int v1], [.int x4], (zS I2 J3 tg4))) rfl ?_
      by_cases c8 : x4 < 0
      · rw [if_pos c8] at h
        refine Runs.brT (P := x4 < 0) (a := 84) (b := 74) (L := [.ref 93, .int x1, .int x2, .int x3, .int x4, .int x5, .int x6, .int v1]) (S := []) (z := (zS I2 J3 tg4)) rfl c8 ?_
        refine Runs.sN 6 (c' := (40, [.ref 93, .int x1, .int x2, .int x3, .int x6, .int v1, .int (x6 + 1), .int v1], [], (zS I2 J3 tg4))) rfl ?_
        exact Runs.weak (L := [.ref 93, .int x1, .int x2, .int x3, .int x6, .int v1, .int (x6 + 1), vU]) (Lle.k (Lle.k (Lle.k (Lle.k (Lle.k (Lle.k (Lle.k (Lle.u Lle.n)))))))) h
      · rw [if_neg c8] at h
        refine Runs.brF (P := x4 < 0) (a := 84) (b := 74) (L := [.ref 93, .int x1, .int x2, .int x3, .int x4, .int x5, .int x6, .int v1]) (S := []) (z := (zS I2 J3 tg4)) rfl c8 ?_
        refine Runs.sN 2 (c' := (78, [.ref 93, .int x1, .int x2, .int x3, .int x4, .int x5, .int x6, .int v1], [.int x5, .int v1], (zS I2 J3 tg4))) rfl ?_
        by_cases c9 : v1 < x5
        · rw [if_pos c9] at h
          refine Runs.brT (P := v1 < x5) (a := 84) (b := 81) (L := [.ref 93, .int x1, .int x2, .int x3, .int x4, .int x5, .int x6, .int v1]) (S := []) (z := (zS I2 J3 tg4)) rfl c9 ?_
          refine Runs.sN 6 (c' := (40, [.ref 93, .int x1, .int x2, .int x3, .int x6, .int v1, .int (x6 + 1), .int v1], [], (zS I2 J3 tg4))) rfl ?_
          exact Runs.weak (L := [.ref 93, .int x1, .int x2, .int x3, .int x6, .int v1, .int (x6 + 1), vU]) (Lle.k (Lle.k (Lle.k (Lle.k (Lle.k (Lle.k (Lle.k (Lle.u Lle.n)))))))) h
        · rw [if_neg c9] at h
          refine Runs.brF (P := v1 < x5) (a := 84) (b := 81) (L := [.ref 93, .int x1, .int x2, .int x3, .int x4, .int x5, .int x6, .int v1]) (S := []) (z := (zS I2 J3 tg4)) rfl c9 ?_
          refine Runs.sN 3 (c' := (40, [.ref 93, .int x1, .int x2, .int x3, .int x4, .int x5, .int (x6 + 1), .int v1], [], (zS I2 J3 tg4))) rfl ?_
          exact Runs.weak (L := [.ref 93, .int x1, .int x2, .int x3, .int x4, .int x5, .int (x6 + 1), vU]) (Lle.k (Lle.k (Lle.k (Lle.k (Lle.k (Lle.k (Lle.k (Lle.u Lle.n)))))))) h
-- X12_days 
theorem sg_288 {L d : Nat} {xs : Nat → Int32} (I : Nat → Nat → Int32) (J : Nat → Nat → Int64) (tg : Option Nat) (a1 : Int32) {r : Option Value × SS} (h : (∃ (v5 : Int32) (I6 : Nat → Nat → Int32) (J7 : Nat → Nat → Int64) (tg8 : Option Nat), Runs (GW L xs) d 177 (0, [.int a1, .int 1, .int 99], [], (zS I J tg)) ((some (.int v5)), (zS I6 J7 tg8)) ∧ (if v5 = 0 then (r = (some (.int (-1)), (zS I6 J7 tg8))) else ((if ((I6 94 0) + a1) ≤ 999 then (r = (some (.int ((I6 94 0) + a1)), (zS (up2 I6 94 0 ((I6 94 0) + a1)) J7 tg8))) else (r = (some (.int (-1)), (zS I6 J7 tg8)))))))) : Runs (GW L xs) (d + 1) 288 (0, [.ref 93, .int a1], [], (zS I J tg)) r := by
  refine Runs.sN 3 (c' := (4, [.ref 93, .int a1], [.int 99, .int 1, .int a1], (zS I J tg))) rfl ?_
  obtain ⟨v5, I6, J7, tg8, c9, h⟩ := h
  refine Runs.cl (cm := 177) (as := [.int a1, .int 1, .int 99]) (rest := []) (r1 := ((some (.int v5)), (zS I6 J7 tg8))) rfl (Nat.le_of_ble_eq_true rfl) c9 ?_
  refine Runs.as (c' := (7, [.ref 93, .int a1], [.int v5], (zS I6 J7 tg8))) rfl ?_
  by_cases c10 : v5 = 0
  · rw [if_pos c10] at h
    refine Runs.brT (P := v5 = 0) (a := 24) (b := 10) (L := [.ref 93, .int a1]) (S := []) (z := (zS I6 J7 tg8)) rfl c10 ?_
    refine Runs.sN 1 (c' := (25, [.ref 93, .int a1], [.int (-1)], (zS I6 J7 tg8))) rfl ?_
    subst h
    exact Runs.rt rfl
  · rw [if_neg c10] at h
    refine Runs.brF (P := v5 = 0) (a := 24) (b := 10) (L := [.ref 93, .int a1]) (S := []) (z := (zS I6 J7 tg8)) rfl c10 ?_
    refine Runs.sN 7 (c' := (21, [.ref 93, .int a1], [.int 999, .int ((I6 94 0) + a1)], (zS I6 J7 tg8))) rfl ?_
    by_cases c11 : ((I6 94 0) + a1) ≤ 999
    · rw [if_pos c11] at h
      refine Runs.brT (P := ((I6 94 0) + a1) ≤ 999) (a := 26) (b := 24) (L := [.ref 93, .int a1]) (S := []) (z := (zS I6 J7 tg8)) rfl c11 ?_
      refine Runs.sN 12 (c' := (42, [.ref 93, .int a1], [.int ((I6 94 0) + a1)], (zS (up2 I6 94 0 ((I6 94 0) + a1)) J7 tg8))) rfl ?_
      subst h
      exact Runs.rt rfl
    · rw [if_neg c11] at h
      refine Runs.brF (P := ((I6 94 0) + a1) ≤ 999) (a := 26) (b := 24) (L := [.ref 93, .int a1]) (S := []) (z := (zS I6 J7 tg8)) rfl c11 ?_
      refine Runs.sN 1 (c' := (25, [.ref 93, .int a1], [.int (-1)], (zS I6 J7 tg8))) rfl ?_
      subst h
      exact Runs.rt rfl
-- X12_answer 
theorem sg_289 {L d : Nat} {xs : Nat → Int32} (I : Nat → Nat → Int32) (J : Nat → Nat → Int64) (tg : Option Nat) (a1 : Int32) (a2 : Int32) (a3 : Int32) (a4 : Int32) {r : Option Value × SS} (h : (∃ (v17 : Int32) (I18 : Nat → Nat → Int32) (J19 : Nat → Nat → Int64) (tg20 : Option Nat), Runs (GW L xs) d 182 (0, [.int a1], [], (zS I J tg)) ((some (.int v17)), (zS I18 J19 tg20)) ∧ (if v17 = 0 then (r = (some (.int (-1)), (zS I18 J19 tg20))) else (∃ (v21 : Int32) (I22 : Nat → Nat → Int32) (J23 : Nat → Nat → Int64) (tg24 : Option Nat), Runs (GW L xs) d 182 (0, [.int a2], [], (zS I18 J19 tg20)) ((some (.int v21)), (zS I22 J23 tg24)) ∧ (if v21 = 0 then (r = (some (.int (-1)), (zS I22 J23 tg24))) else (∃ (v25 : Int32) (I26 : Nat → Nat → Int32) (J27 : Nat → Nat → Int64) (tg28 : Option Nat), Runs (GW L xs) d 179 (0, [.ref 93, .int a3], [], (zS I22 J23 tg24)) ((some (.int v25)), (zS I26 J27 tg28)) ∧ (if v25 = 0 then (r = (some (.int (-1)), (zS I26 J27 tg28))) else ((if a4 = (-1) then ((if (I26 94 7) = 60 then (r = (some (.int (-1)), (zS I26 J27 tg28))) else (¬ ((890 + (5 * (I26 94 7))) < 0 ∨ 1200 ≤ (890 + (5 * (I26 94 7))).toNatClampNeg) ∧ ¬ (((890 + (5 * (I26 94 7))) + 1) < 0 ∨ 1200 ≤ ((890 + (5 * (I26 94 7))) + 1).toNatClampNeg) ∧ ¬ (((890 + (5 * (I26 94 7))) + 2) < 0 ∨ 1200 ≤ ((890 + (5 * (I26 94 7))) + 2).toNatClampNeg) ∧ ¬ (((890 + (5 * (I26 94 7))) + 3) < 0 ∨ 1200 ≤ ((890 + (5 * (I26 94 7))) + 3).toNatClampNeg) ∧ ¬ (((890 + (5 * (I26 94 7))) + 4) < 0 ∨ 1200 ≤ ((890 + (5 * (I26 94 7))) + 4).toNatClampNeg) ∧ r = (some (.int (((up2 (up2 (up2 (up2 (up2 I26 94 ((890 + (5 * (I26 94 7))).toNatClampNeg) a1) 94 (((890 + (5 * (I26 94 7))) + 1).toNatClampNeg) a2) 94 (((890 + (5 * (I26 94 7))) + 2).toNatClampNeg) a3) 94 (((890 + (5 * (I26 94 7))) + 3).toNatClampNeg) a4) 94 (((890 + (5 * (I26 94 7))) + 4).toNatClampNeg) ((up2 (up2 (up2 (up2 I26 94 ((890 + (5 * (I26 94 7))).toNatClampNeg) a1) 94 (((890 + (5 * (I26 94 7))) + 1).toNatClampNeg) a2) 94 (((890 + (5 * (I26 94 7))) + 2).toNatClampNeg) a3) 94 (((890 + (5 * (I26 94 7))) + 3).toNatClampNeg) a4) 94 0)) 94 7) + 1)), (zS (up2 (up2 (up2 (up2 (up2 (up2 I26 94 ((890 + (5 * (I26 94 7))).toNatClampNeg) a1) 94 (((890 + (5 * (I26 94 7))) + 1).toNatClampNeg) a2) 94 (((890 + (5 * (I26 94 7))) + 2).toNatClampNeg) a3) 94 (((890 + (5 * (I26 94 7))) + 3).toNatClampNeg) a4) 94 (((890 + (5 * (I26 94 7))) + 4).toNatClampNeg) ((up2 (up2 (up2 (up2 I26 94 ((890 + (5 * (I26 94 7))).toNatClampNeg) a1) 94 (((890 + (5 * (I26 94 7))) + 1).toNatClampNeg) a2) 94 (((890 + (5 * (I26 94 7))) + 2).toNatClampNeg) a3) 94 (((890 + (5 * (I26 94 7))) + 3).toNatClampNeg) a4) 94 0)) 94 7 (((up2 (up2 (up2 (up2 (up2 I26 94 ((890 + (5 * (I26 94 7))).toNatClampNeg) a1) 94 (((890 + (5 * (I26 94 7))) + 1).toNatClampNeg) a2) 94 (((890 + (5 * (I26 94 7))) + 2).toNatClampNeg) a3) 94 (((890 + (5 * (I26 94 7))) + 3).toNatClampNeg) a4) 94 (((890 + (5 * (I26 94 7))) + 4).toNatClampNeg) ((up2 (up2 (up2 (up2 I26 94 ((890 + (5 * (I26 94 7))).toNatClampNeg) a1) 94 (((890 + (5 * (I26 94 7))) + 1).toNatClampNeg) a2) 94 (((890 + (5 * (I26 94 7))) + 2).toNatClampNeg) a3) 94 (((890 + (5 * (I26 94 7))) + 3).toNatClampNeg) a4) 94 0)) 94 7) + 1)) J27 tg28))))) else (∃ (v29 : Int32) (I30 : Nat → Nat → Int32) (J31 : Nat → Nat → Int64) (tg32 : Option Nat), Runs (GW L xs) d 180 (0, [.ref 93, .int a4], [], (zS I26 J27 tg28)) ((some (.int v29)), (zS I30 J31 tg32)) ∧ (if v29 = 0 then (r = (some (.int (-1)), (zS I30 J31 tg32))) else ((if (I30 94 7) = 60 then (r = (some (.int (-1)), (zS I30 J31 tg32))) else (¬ ((890 + (5 * (I30 94 7))) < 0 ∨ 1200 ≤ (890 + (5 * (I30 94 7))).toNatClampNeg) ∧ ¬ (((890 + (5 * (I30 94 7))) + 1) < 0 ∨ 1200 ≤ ((890 + (5 * (I30 94 7))) + 1).toNatClampNeg) ∧ ¬ (((890 + (5 * (I30 94 7))) + 2) < 0 ∨ 1200 ≤ ((890 + (5 * (I30 94 7))) + 2).toNatClampNeg) ∧ ¬ (((890 + (5 * (I30 94 7))) + 3) < 0 ∨ 1200 ≤ ((890 + (5 * (I30 94 7))) + 3).toNatClampNeg) ∧ ¬ (((890 + (5 * (I30 94 7))) + 4) < 0 ∨ 1200 ≤ ((890 + (5 * (I30 94 7))) + 4).toNatClampNeg) ∧ r = (some (.int (((up2 (up2 (up2 (up2 (up2 I30 94 ((890 + (5 * (I30 94 7))).toNatClampNeg) a1) 94 (((890 + (5 * (I30 94 7))) + 1).toNatClampNeg) a2) 94 (((890 + (5 * (I30 94 7))) + 2).toNatClampNeg) a3) 94 (((890 + (5 * (I30 94 7))) + 3).toNatClampNeg) a4) 94 (((890 + (5 * (I30 94 7))) + 4).toNatClampNeg) ((up2 (up2 (up2 (up2 I30 94 ((890 + (5 * (I30 94 7))).toNatClampNeg) a1) 94 (((890 + (5 * (I30 94 7))) + 1).toNatClampNeg) a2) 94 (((890 + (5 * (I30 94 7))) + 2).toNatClampNeg) a3) 94 (((890 + (5 * (I30 94 7))) + 3).toNatClampNeg) a4) 94 0)) 94 7) + 1)), (zS (up2 (up2 (up2 (up2 (up2 (up2 I30 94 ((890 + (5 * (I30 94 7))).toNatClampNeg) a1) 94 (((890 + (5 * (I30 94 7))) + 1).toNatClampNeg) a2) 94 (((890 + (5 * (I30 94 7))) + 2).toNatClampNeg) a3) 94 (((890 + (5 * (I30 94 7))) + 3).toNatClampNeg) a4) 94 (((890 + (5 * (I30 94 7))) + 4).toNatClampNeg) ((up2 (up2 (up2 (up2 I30 94 ((890 + (5 * (I30 94 7))).toNatClampNeg) a1) 94 (((890 + (5 * (I30 94 7))) + 1).toNatClampNeg) a2) 94 (((890 + (5 * (I30 94 7))) + 2).toNatClampNeg) a3) 94 (((890 + (5 * (I30 94 7))) + 3).toNatClampNeg) a4) 94 0)) 94 7 (((up2 (up2 (up2 (up2 (up2 I30 94 ((890 + (5 * (I30 94 7))).toNatClampNeg) a1) 94 (((890 + (5 * (I30 94 7))) + 1).toNatClampNeg) a2) 94 (((890 + (5 * (I30 94 7))) + 2).toNatClampNeg) a3) 94 (((890 + (5 * (I30 94 7))) + 3).toNatClampNeg) a4) 94 (((890 + (5 * (I30 94 7))) + 4).toNatClampNeg) ((up2 (up2 (up2 (up2 I30 94 ((890 + (5 * (I30 94 7))).toNatClampNeg) a1) 94 (((890 + (5 * (I30 94 7))) + 1).toNatClampNeg) a2) 94 (((890 + (5 * (I30 94 7))) + 2).toNatClampNeg) a3) 94 (((890 + (5 * (I30 94 7))) + 3).toNatClampNeg) a4) 94 0)) 94 7) + 1)) J31 tg32)))))))))))))))) : Runs (GW L xs) (d + 1) 289 (0, [.ref 93, .int a1, .int a2, .int a3, .int a4, vU], [], (zS I J tg)) r := by
  refine Runs.sN 1 (c' := (1, [.ref 93, .int a1, .int a2, .int a3, .int a4, vU], [.int a1], (zS I J tg))) rfl ?_
  obtain ⟨v17, I18, J19, tg20, c33, h⟩ := h
  refine Runs.cl (cm := 182) (as := [.int a1]) (rest := []) (r1 := ((some (.int v17)), (zS I18 J19 tg20))) rfl (Nat.le_of_ble_eq_true rfl) c33 ?_
  refine Runs.as (c' := (4, [.ref 93, .int a1, .int a2, .int a3, .int a4, vU], [.int v17], (zS I18 J19 tg20))) rfl ?_
  by_cases c34 : v17 = 0
  · rw [if_pos c34] at h
    refine Runs.brT (P := v17 = 0) (a := 49) (b := 7) (L := [.ref 93, .int a1, .int a2, .int a3, .int a4, vU]) (S := []) (z := (zS I18 J19 tg20)) rfl c34 ?_
    refine Runs.sN 1 (c' := (50, [.ref 93, .int a1, .int a2, .int a3, .int a4, vU], [.int (-1)], (zS I18 J19 tg20))) rfl ?_
    subst h
    exact Runs.rt rfl
  · rw [if_neg c34] at h
    refine Runs.brF (P := v17 = 0) (a := 49) (b := 7) (L := [.ref 93, .int a1, .int a2, .int a3, .int a4, vU]) (S := []) (z := (zS I18 J19 tg20)) rfl c34 ?_
    refine Runs.sN 1 (c' := (8, [.ref 93, .int a1, .int a2, .int a3, .int a4, vU], [.int a2], (zS I18 J19 tg20))) rfl ?_
    obtain ⟨v21, I22, J23, tg24, c35, h⟩ := h
    refine Runs.cl (cm := 182) (as := [.int a2]) (rest := []) (r1 := ((some (.int v21)), (zS I22 J23 tg24))) rfl (Nat.le_of_ble_eq_true rfl) c35 ?_
    refine Runs.as (c' := (11, [.ref 93, .int a1, .int a2, .int a3, .int a4, vU], [.int v21], (zS I22 J23 tg24))) rfl ?_
    by_cases c36 : v21 = 0
    · rw [if_pos c36] at h
      refine Runs.brT (P := v21 = 0) (a := 49) (b := 14) (L := [.ref 93, .int a1, .int a2, .int a3, .int a4, vU]) (S := []) (z := (zS I22 J23 tg24)) rfl c36 ?_
      refine Runs.sN 1 (c' := (50, [.ref 93, .int a1, .int a2, .int a3, .int a4, vU], [.int (-1)], (zS I22 J23 tg24))) rfl ?_
      subst h
      exact Runs.rt rfl
    · rw [if_neg c36] at h
      refine Runs.brF (P := v21 = 0) (a := 49) (b := 14) (L := [.ref 93, .int a1, .int a2, .int a3, .int a4, vU]) (S := []) (z := (zS I22 J23 tg24)) rfl c36 ?_
      refine Runs.sN 2 (c' := (16, [.ref 93, .int a1, .int a2, .int a3, .int a4, vU], [.int a3, .ref 93], (zS I22 J23 tg24))) rfl ?_
      obtain ⟨v25, I26, J27, tg28, c37, h⟩ := h
      refine Runs.cl (cm := 179) (as := [.ref 93, .int a3]) (rest := []) (r1 := ((some (.int v25)), (zS I26 J27 tg28))) rfl (Nat.le_of_ble_eq_true rfl) c37 ?_
      refine Runs.as (c' := (19, [.ref 93, .int a1, .int a2, .int a3, .int a4, vU], [.int v25], (zS I26 J27 tg28))) rfl ?_
      by_cases c38 : v25 = 0
      · rw [if_pos c38] at h
        refine Runs.brT (P := v25 = 0) (a := 49) (b := 22) (L := [.ref 93, .int a1, .int a2, .int a3, .int a4, vU]) (S := []) (z := (zS I26 J27 tg28)) rfl c38 ?_
        refine Runs.sN 1 (c' := (50, [.ref 93, .int a1, .int a2, .int a3, .int a4, vU], [.int (-1)], (zS I26 J27 tg28))) rfl ?_
        subst h
        exact Runs.rt rfl
      · rw [if_neg c38] at h
        refine Runs.brF (P := v25 = 0) (a := 49) (b := 22) (L := [.ref 93, .int a1, .int a2, .int a3, .int a4, vU]) (S := []) (z := (zS I26 J27 tg28)) rfl c38 ?_
        refine Runs.sN 2 (c' := (25, [.ref 93, .int a1, .int a2, .int a3, .int a4, vU], [.int (-1), .int a4], (zS I26 J27 tg28))) rfl ?_
        by_cases c39 : a4 = (-1)
        · rw [if_pos c39] at h
          refine Runs.brT (P := a4 = (-1)) (a := 37) (b := 28) (L := [.ref 93, .int a1, .int a2, .int a3, .int a4, vU]) (S := []) (z := (zS I26 J27 tg28)) rfl c39 ?_
          refine Runs.sN 5 (c' := (46, [.ref 93, .int a1, .int a2, .int a3, .int a4, vU], [.int 60, .int (I26 94 7)], (zS I26 J27 tg28))) rfl ?_
          by_cases c40 : (I26 94 7) = 60
          · rw [if_pos c40] at h
            refine Runs.brT (P := (I26 94 7) = 60) (a := 49) (b := 51) (L := [.ref 93, .int a1, .int a2, .int a3, .int a4, vU]) (S := []) (z := (zS I26 J27 tg28)) rfl c40 ?_
            refine Runs.sN 1 (c' := (50, [.ref 93, .int a1, .int a2, .int a3, .int a4, vU], [.int (-1)], (zS I26 J27 tg28))) rfl ?_
            subst h
            exact Runs.rt rfl
          · rw [if_neg c40] at h
            refine Runs.brF (P := (I26 94 7) = 60) (a := 49) (b := 51) (L := [.ref 93, .int a1, .int a2, .int a3, .int a4, vU]) (S := []) (z := (zS I26 J27 tg28)) rfl c40 ?_
            refine Runs.sN 13 (c' := (73, [.ref 93, .int a1, .int a2, .int a3, .int a4, .int (890 + (5 * (I26 94 7)))], [.int a1, .int (890 + (5 * (I26 94 7))), .ref 94], (zS I26 J27 tg28))) rfl ?_
            obtain ⟨c41, h⟩ := h
            refine Runs.to (c' := (74, [.ref 93, .int a1, .int a2, .int a3, .int a4, .int (890 + (5 * (I26 94 7)))], [], (zS (up2 I26 94 ((890 + (5 * (I26 94 7))).toNatClampNeg) a1) J27 tg28))) (Runs.ist rfl (show (94 : Nat) < 114 by decide) rfl c41) ?_
            refine Runs.sN 6 (c' := (83, [.ref 93, .int a1, .int a2, .int a3, .int a4, .int (890 + (5 * (I26 94 7)))], [.int a2, .int ((890 + (5 * (I26 94 7))) + 1), .ref 94], (zS (up2 I26 94 ((890 + (5 * (I26 94 7))).toNatClampNeg) a1) J27 tg28))) rfl ?_
            obtain ⟨c42, h⟩ := h
            refine Runs.to (c' := (84, [.ref 93, .int a1, .int a2, .int a3, .int a4, .int (890 + (5 * (I26 94 7)))], [], (zS (up2 (up2 I26 94 ((890 + (5 * (I26 94 7))).toNatClampNeg) a1) 94 (((890 + (5 * (I26 94 7))) + 1).toNatClampNeg) a2) J27 tg28))) (Runs.ist rfl (show (94 : Nat) < 114 by decide) rfl c42) ?_
            refine Runs.sN 6 (c' := (93, [.ref 93, .int a1, .int a2, .int a3, .int a4, .int (890 + (5 * (I26 94 7)))], [.int a3, .int ((890 + (5 * (I26 94 7))) + 2), .ref 94], (zS (up2 (up2 I26 94 ((890 + (5 * (I26 94 7))).toNatClampNeg) a1) 94 (((890 + (5 * (I26 94 7))) + 1).toNatClampNeg) a2) J27 tg28))) rfl ?_
            obtain ⟨c43, h⟩ := h
            refine Runs.to (c' := (94, [.ref 93, .int a1, .int a2, .int a3, .int a4, .int (890 + (5 * (I26 94 7)))], [], (zS (up2 (up2 (up2 I26 94 ((890 + (5 * (I26 94 7))).toNatClampNeg) a1) 94 (((890 + (5 * (I26 94 7))) + 1).toNatClampNeg) a2) 94 (((890 + (5 * (I26 94 7))) + 2).toNatClampNeg) a3) J27 tg28))) (Runs.ist rfl (show (94 : Nat) < 114 by decide) rfl c43) ?_
            refine Runs.sN 6 (c' := (104, [.ref 93, .int a1, .int a2, .int a3, .int a4, .int (890 + (5 * (I26 94 7)))], [.int a4, .int ((890 + (5 * (I26 94 7))) + 3), .ref 94], (zS (up2 (up2 (up2 I26 94 ((890 + (5 * (I26 94 7))).toNatClampNeg) a1) 94 (((890 + (5 * (I26 94 7))) + 1).toNatClampNeg) a2) 94 (((890 + (5 * (I26 94 7))) + 2).toNatClampNeg) a3) J27 tg28))) rfl ?_
            obtain ⟨c44, h⟩ := h
            refine Runs.to (c' := (105, [.ref 93, .int a1, .int a2, .int a3, .int a4, .int (890 + (5 * (I26 94 7)))], [], (zS (up2 (up2 (up2 (up2 I26 94 ((890 + (5 * (I26 94 7))).toNatClampNeg) a1) 94 (((890 + (5 * (I26 94 7))) + 1).toNatClampNeg) a2) 94 (((890 + (5 * (I26 94 7))) + 2).toNatClampNeg) a3) 94 (((890 + (5 * (I26 94 7))) + 3).toNatClampNeg) a4) J27 tg28))) (Runs.ist rfl (show (94 : Nat) < 114 by decide) rfl c44) ?_
            refine Runs.sN 9 (c' := (119, [.ref 93, .int a1, .int a2, .int a3, .int a4, .int (890 + (5 * (I26 94 7)))], [.int ((up2 (up2 (up2 (up2 I26 94 ((890 + (5 * (I26 94 7))).toNatClampNeg) a1) 94 (((890 + (5 * (I26 94 7))) + 1).toNatClampNeg) a2) 94 (((890 + (5 * (I26 94 7))) + 2).toNatClampNeg) a3) 94 (((890 + (5 * (I26 94 7))) + 3).toNatClampNeg) a4) 94 0), .int ((890 + (5 * (I26 94 7))) + 4), .ref 94], (zS (up2 (up2 (up2 (up2 I26 94 ((890 + (5 * (I26 94 7))).toNatClampNeg) a1) 94 (((890 + (5 * (I26 94 7))) + 1).toNatClampNeg) a2) 94 (((890 + (5 * (I26 94 7))) + 2).toNatClampNeg) a3) 94 (((890 + (5 * (I26 94 7))) + 3).toNatClampNeg) a4) J27 tg28))) rfl ?_
            obtain ⟨c45, h⟩ := h
            refine Runs.to (c' := (120, [.ref 93, .int a1, .int a2, .int a3, .int a4, .int (890 + (5 * (I26 94 7)))], [], (zS (up2 (up2 (up2 (up2 (up2 I26 94 ((890 + (5 * (I26 94 7))).toNatClampNeg) a1) 94 (((890 + (5 * (I26 94 7))) + 1).toNatClampNeg) a2) 94 (((890 + (5 * (I26 94 7))) + 2).toNatClampNeg) a3) 94 (((890 + (5 * (I26 94 7))) + 3).toNatClampNeg) a4) 94 (((890 + (5 * (I26 94 7))) + 4).toNatClampNeg) ((up2 (up2 (up2 (up2 I26 94 ((890 + (5 * (I26 94 7))).toNatClampNeg) a1) 94 (((890 + (5 * (I26 94 7))) + 1).toNatClampNeg) a2) 94 (((890 + (5 * (I26 94 7))) + 2).toNatClampNeg) a3) 94 (((890 + (5 * (I26 94 7))) + 3).toNatClampNeg) a4) 94 0)) J27 tg28))) (Runs.ist rfl (show (94 : Nat) < 114 by decide) rfl c45) ?_
            refine Runs.sN 12 (c' := (138, [.ref 93, .int a1, .int a2, .int a3, .int a4, .int (890 + (5 * (I26 94 7)))], [.int (((up2 (up2 (up2 (up2 (up2 I26 94 ((890 + (5 * (I26 94 7))).toNatClampNeg) a1) 94 (((890 + (5 * (I26 94 7))) + 1).toNatClampNeg) a2) 94 (((890 + (5 * (I26 94 7))) + 2).toNatClampNeg) a3) 94 (((890 + (5 * (I26 94 7))) + 3).toNatClampNeg) a4) 94 (((890 + (5 * (I26 94 7))) + 4).toNatClampNeg) ((up2 (up2 (up2 (up2 I26 94 ((890 + (5 * (I26 94 7))).toNatClampNeg) a1) 94 (((890 + (5 * (I26 94 7))) + 1).toNatClampNeg) a2) 94 (((890 + (5 * (I26 94 7))) + 2).toNatClampNeg) a3) 94 (((890 + (5 * (I26 94 7))) + 3).toNatClampNeg) a4) 94 0)) 94 7) + 1)], (zS (up2 (up2 (up2 (up2 (up2 (up2 I26 94 ((890 + (5 * (I26 94 7))).toNatClampNeg) a1) 94 (((890 + (5 * (I26 94 7))) + 1).toNatClampNeg) a2) 94 (((890 + (5 * (I26 94 7))) + 2).toNatClampNeg) a3) 94 (((890 + (5 * (I26 94 7))) + 3).toNatClampNeg) a4) 94 (((890 + (5 * (I26 94 7))) + 4).toNatClampNeg) ((up2 (up2 (up2 (up2 I26 94 ((890 + (5 * (I26 94 7))).toNatClampNeg) a1) 94 (((890 + (5 * (I26 94 7))) + 1).toNatClampNeg) a2) 94 (((890 + (5 * (I26 94 7))) + 2).toNatClampNeg) a3) 94 (((890 + (5 * (I26 94 7))) + 3).toNatClampNeg) a4) 94 0)) 94 7 (((up2 (up2 (up2 (up2 (up2 I26 94 ((890 + (5 * (I26 94 7))).toNatClampNeg) a1) 94 (((890 + (5 * (I26 94 7))) + 1).toNatClampNeg) a2) 94 (((890 + (5 * (I26 94 7))) + 2).toNatClampNeg) a3) 94 (((890 + (5 * (I26 94 7))) + 3).toNatClampNeg) a4) 94 (((890 + (5 * (I26 94 7))) + 4).toNatClampNeg) ((up2 (up2 (up2 (up2 I26 94 ((890 + (5 * (I26 94 7))).toNatClampNeg) a1) 94 (((890 + (5 * (I26 94 7))) + 1).toNatClampNeg) a2) 94 (((890 + (5 * (I26 94 7))) + 2).toNatClampNeg) a3) 94 (((890 + (5 * (I26 94 7))) + 3).toNatClampNeg) a4) 94 0)) 94 7) + 1)) J27 tg28))) rfl ?_
            subst h
            exact Runs.rt rfl
        · rw [if_neg c39] at h
          refine Runs.brF (P := a4 = (-1)) (a := 37) (b := 28) (L := [.ref 93, .int a1, .int a2, .int a3, .int a4, vU]) (S := []) (z := (zS I26 J27 tg28)) rfl c39 ?_
          refine Runs.sN 2 (c' := (31, [.ref 93, .int a1, .int a2, .int a3, .int a4, vU], [.int a4, .ref 93], (zS I26 J27 tg28))) rfl ?_
          obtain ⟨v29, I30, J31, tg32, c46, h⟩ := h
          refine Runs.cl (cm := 180) (as := [.ref 93, .int a4]) (rest := []) (r1 := ((some (.int v29)), (zS I30 J31 tg32))) rfl (Nat.le_of_ble_eq_true rfl) c46 ?_
          refine Runs.as (c' := (34, [.ref 93, .int a1, .int a2, .int a3, .int a4, vU], [.int v29], (zS I30 J31 tg32))) rfl ?_
          by_cases c47 : v29 = 0
          · rw [if_pos c47] at h
            refine Runs.brT (P := v29 = 0) (a := 49) (b := 37) (L := [.ref 93, .int a1, .int a2, .int a3, .int a4, vU]) (S := []) (z := (zS I30 J31 tg32)) rfl c47 ?_
            refine Runs.sN 1 (c' := (50, [.ref 93, .int a1, .int a2, .int a3, .int a4, vU], [.int (-1)], (zS I30 J31 tg32))) rfl ?_
            subst h
            exact Runs.rt rfl
          · rw [if_neg c47] at h
            refine Runs.brF (P := v29 = 0) (a := 49) (b := 37) (L := [.ref 93, .int a1, .int a2, .int a3, .int a4, vU]) (S := []) (z := (zS I30 J31 tg32)) rfl c47 ?_
            refine Runs.sN 5 (c' := (46, [.ref 93, .int a1, .int a2, .int a3, .int a4, vU], [.int 60, .int (I30 94 7)], (zS I30 J31 tg32))) rfl ?_
            by_cases c48 : (I30 94 7) = 60
            · rw [if_pos c48] at h
              refine Runs.brT (P := (I30 94 7) = 60) (a := 49) (b := 51) (L := [.ref 93, .int a1, .int a2, .int a3, .int a4, vU]) (S := []) (z := (zS I30 J31 tg32)) rfl c48 ?_
              refine Runs.sN 1 (c' := (50, [.ref 93, .int a1, .int a2, .int a3, .int a4, vU], [.int (-1)], (zS I30 J31 tg32))) rfl ?_
              subst h
              exact Runs.rt rfl
            · rw [if_neg c48] at h
              refine Runs.brF (P := (I30 94 7) = 60) (a := 49) (b := 51) (L := [.ref 93, .int a1, .int a2, .int a3, .int a4, vU]) (S := []) (z := (zS I30 J31 tg32)) rfl c48 ?_
              refine Runs.sN 13 (c' := (73, [.ref 93, .int a1, .int a2, .int a3, .int a4, .int (890 + (5 * (I30 94 7)))], [.int a1, .int (890 + (5 * (I30 94 7))), .ref 94], (zS I30 J31 tg32))) rfl ?_
              obtain ⟨c49, h⟩ := h
              refine Runs.to (c' := (74, [.ref 93, .int a1, .int a2, .int a3, .int a4, .int (890 + (5 * (I30 94 7)))], [], (zS (up2 I30 94 ((890 + (5 * (I30 94 7))).toNatClampNeg) a1) J31 tg32))) (Runs.ist rfl (show (94 : Nat) < 114 by decide) rfl c49) ?_
              refine Runs.sN 6 (c' := (83, [.ref 93, .int a1, .int a2, .int a3, .int a4, .int (890 + (5 * (I30 94 7)))], [.int a2, .int ((890 + (5 * (I30 94 7))) + 1), .ref 94], (zS (up2 I30 94 ((890 + (5 * (I30 94 7))).toNatClampNeg) a1) J31 tg32))) rfl ?_
              obtain ⟨c50, h⟩ := h
              refine Runs.to (c' := (84, [.ref 93, .int a1, .int a2, .int a3, .int a4, .int (890 + (5 * (I30 94 7)))], [], (zS (up2 (up2 I30 94 ((890 + (5 * (I30 94 7))).toNatClampNeg) a1) 94 (((890 + (5 * (I30 94 7))) + 1).toNatClampNeg) a2) J31 tg32))) (Runs.ist rfl (show (94 : Nat) < 114 by decide) rfl c50) ?_
              refine Runs.sN 6 (c' := (93, [.ref 93, .int a1, .int a2, .int a3, .int a4, .int (890 + (5 * (I30 94 7)))], [.int a3, .int ((890 + (5 * (I30 94 7))) + 2), .ref 94], (zS (up2 (up2 I30 94 ((890 + (5 * (I30 94 7))).toNatClampNeg) a1) 94 (((890 + (5 * (I30 94 7))) + 1).toNatClampNeg) a2) J31 tg32))) rfl ?_
              obtain ⟨c51, h⟩ := h
              refine Runs.to (c' := (94, [.ref 93, .int a1, .int a2, .int a3, .int a4, .int (890 + (5 * (I30 94 7)))], [], (zS (up2 (up2 (up2 I30 94 ((890 + (5 * (I30 94 7))).toNatClampNeg) a1) 94 (((890 + (5 * (I30 94 7))) + 1).toNatClampNeg) a2) 94 (((890 + (5 * (I30 94 7))) + 2).toNatClampNeg) a3) J31 tg32))) (Runs.ist rfl (show (94 : Nat) < 114 by decide) rfl c51) ?_
              refine Runs.sN 6 (c' := (104, [.ref 93, .int a1, .int a2, .int a3, .int a4, .int (890 + (5 * (I30 94 7)))], [.int a4, .int ((890 + (5 * (I30 94 7))) + 3), .ref 94], (zS (up2 (up2 (up2 I30 94 ((890 + (5 * (I30 94 7))).toNatClampNeg) a1) 94 (((890 + (5 * (I30 94 7))) + 1).toNatClampNeg) a2) 94 (((890 + (5 * (I30 94 7))) + 2).toNatClampNeg) a3) J31 tg32))) rfl ?_
              obtain ⟨c52, h⟩ := h
              refine Runs.to (c' := (105, [.ref 93, .int a1, .int a2, .int a3, .int a4, .int (890 + (5 * (I30 94 7)))], [], (zS (up2 (up2 (up2 (up2 I30 94 ((890 + (5 * (I30 94 7))).toNatClampNeg) a1) 94 (((890 + (5 * (I30 94 7))) + 1).toNatClampNeg) a2) 94 (((890 + (5 * (I30 94 7))) + 2).toNatClampNeg) a3) 94 (((890 + (5 * (I30 94 7))) + 3).toNatClampNeg) a4) J31 tg32))) (Runs.ist rfl (show (94 : Nat) < 114 by decide) rfl c52) ?_
              refine Runs.sN 9 (c' := (119, [.ref 93, .int a1, .int a2, .int a3, .int a4, .int (890 + (5 * (I30 94 7)))], [.int ((up2 (up2 (up2 (up2 I30 94 ((890 + (5 * (I30 94 7))).toNatClampNeg) a1) 94 (((890 + (5 * (I30 94 7))) + 1).toNatClampNeg) a2) 94 (((890 + (5 * (I30 94 7))) + 2).toNatClampNeg) a3) 94 (((890 + (5 * (I30 94 7))) + 3).toNatClampNeg) a4) 94 0), .int ((890 + (5 * (I30 94 7))) + 4), .ref 94], (zS (up2 (up2 (up2 (up2 I30 94 ((890 + (5 * (I30 94 7))).toNatClampNeg) a1) 94 (((890 + (5 * (I30 94 7))) + 1).toNatClampNeg) a2) 94 (((890 + (5 * (I30 94 7))) + 2).toNatClampNeg) a3) 94 (((890 + (5 * (I30 94 7))) + 3).toNatClampNeg) a4) J31 tg32))) rfl ?_
              obtain ⟨c53, h⟩ := h
              refine Runs.to (c' := (120, [.ref 93, .int a1, .int a2, .int a3, .int a4, .int (890 + (5 * (I30 94 7)))], [], (zS (up2 (up2 (up2 (up2 (up2 I30 94 ((890 + (5 * (I30 94 7))).toNatClampNeg) a1) 94 (((890 + (5 * (I30 94 7))) + 1).toNatClampNeg) a2) 94 (((890 + (5 * (I30 94 7))) + 2).toNatClampNeg) a3) 94 (((890 + (5 * (I30 94 7))) + 3).toNatClampNeg) a4) 94 (((890 + (5 * (I30 94 7))) + 4).toNatClampNeg) ((up2 (up2 (up2 (up2 I30 94 ((890 + (5 * (I30 94 7))).toNatClampNeg) a1) 94 (((890 + (5 * (I30 94 7))) + 1).toNatClampNeg) a2) 94 (((890 + (5 * (I30 94 7))) + 2).toNatClampNeg) a3) 94 (((890 + (5 * (I30 94 7))) + 3).toNatClampNeg) a4) 94 0)) J31 tg32))) (Runs.ist rfl (show (94 : Nat) < 114 by decide) rfl c53) ?_
              refine Runs.sN 12 (c' := (138, [.ref 93, .int a1, .int a2, .int a3, .int a4, .int (890 + (5 * (I30 94 7)))], [.int (((up2 (up2 (up2 (up2 (up2 I30 94 ((890 + (5 * (I30 94 7))).toNatClampNeg) a1) 94 (((890 + (5 * (I30 94 7))) + 1).toNatClampNeg) a2) 94 (((890 + (5 * (I30 94 7))) + 2).toNatClampNeg) a3) 94 (((890 + (5 * (I30 94 7))) + 3).toNatClampNeg) a4) 94 (((890 + (5 * (I30 94 7))) + 4).toNatClampNeg) ((up2 (up2 (up2 (up2 I30 94 ((890 + (5 * (I30 94 7))).toNatClampNeg) a1) 94 (((890 + (5 * (I30 94 7))) + 1).toNatClampNeg) a2) 94 (((890 + (5 * (I30 94 7))) + 2).toNatClampNeg) a3) 94 (((890 + (5 * (I30 94 7))) + 3).toNatClampNeg) a4) 94 0)) 94 7) + 1)], (zS (up2 (up2 (up2 (up2 (up2 (up2 I30 94 ((890 + (5 * (I30 94 7))).toNatClampNeg) a1) 94 (((890 + (5 * (I30 94 7))) + 1).toNatClampNeg) a2) 94 (((890 + (5 * (I30 94 7))) + 2).toNatClampNeg) a3) 94 (((890 + (5 * (I30 94 7))) + 3).toNatClampNeg) a4) 94 (((890 + (5 * (I30 94 7))) + 4).toNatClampNeg) ((up2 (up2 (up2 (up2 I30 94 ((890 + (5 * (I30 94 7))).toNatClampNeg) a1) 94 (((890 + (5 * (I30 94 7))) + 1).toNatClampNeg) a2) 94 (((890 + (5 * (I30 94 7))) + 2).toNatClampNeg) a3) 94 (((890 + (5 * (I30 94 7))) + 3).toNatClampNeg) a4) 94 0)) 94 7 (((up2 (up2 (up2 (up2 (up2 I30 94 ((890 + (5 * (I30 94 7))).toNatClampNeg) a1) 94 (((890 + (5 * (I30 94 7))) + 1).toNatClampNeg) a2) 94 (((890 + (5 * (I30 94 7))) + 2).toNatClampNeg) a3) 94 (((890 + (5 * (I30 94 7))) + 3).toNatClampNeg) a4) 94 (((890 + (5 * (I30 94 7))) + 4).toNatClampNeg) ((up2 (up2 (up2 (up2 I30 94 ((890 + (5 * (I30 94 7))).toNatClampNeg) a1) 94 (((890 + (5 * (I30 94 7))) + 1).toNatClampNeg) a2) 94 (((890 + (5 * (I30 94 7))) + 2).toNatClampNeg) a3) 94 (((890 + (5 * (I30 94 7))) + 3).toNatClampNeg) a4) 94 0)) 94 7) + 1)) J31 tg32))) rfl ?_
              subst h
              exact Runs.rt rfl
-- X12_findMinds 
theorem sg_290 {L d : Nat} {xs : Nat → Int32} (I : Nat → Nat → Int32) (J : Nat → Nat → Int64) (tg : Option Nat) (a1 : Int32) (a2 : Int32) {r : Option Value × SS} (h : (Runs (GW L xs) (d + 1) 290 (2, [.ref 93, .int a1, .int a2, .int 0, vU, vU], [], (zS I J tg)) r)) : Runs (GW L xs) (d + 1) 290 (0, [.ref 93, .int a1, .int a2, vU, vU, vU], [], (zS I J tg)) r := by
  refine Runs.sN 2 (c' := (2, [.ref 93, .int a1, .int a2, .int 0, vU, vU], [], (zS I J tg))) rfl ?_
  exact h
theorem sg_290_2 {L d : Nat} {xs : Nat → Int32} (I : Nat → Nat → Int32) (J : Nat → Nat → Int64) (tg : Option Nat) (x1 : Int32) (x2 : Int32) (x3 : Int32) {r : Option Value × SS} (h : (∃ (v1 : Int32) (I2 : Nat → Nat → Int32) (J3 : Nat → Nat → Int64) (tg4 : Option Nat), Runs (GW L xs) d 199 (0, [.ref 93], [], (zS I J tg)) ((some (.int v1)), (zS I2 J3 tg4)) ∧ (if v1 < x3 then (Runs (GW L xs) (d + 1) 290 (25, [.ref 93, .int x1, .int x2, .int 0, vU, vU], [], (zS I2 J3 tg4)) r) else (¬ (x3 < 0 ∨ 4096 ≤ (x3).toNatClampNeg) ∧ (1 = 0 ∨ 1 = 1) ∧ Runs (GW L xs) (d + 1) 290 (2, [.ref 93, .int x1, .int x2, .int (x3 + 1), vU, vU], [], (zS (up2 I2 112 ((x3).toNatClampNeg) 1) J3 tg4)) r)))) : Runs (GW L xs) (d + 1) 290 (2, [.ref 93, .int x1, .int x2, .int x3, vU, vU], [], (zS I J tg)) r := by
  refine Runs.sN 2 (c' := (4, [.ref 93, .int x1, .int x2, .int x3, vU, vU], [.ref 93, .int x3], (zS I J tg))) rfl ?_
  obtain ⟨v1, I2, J3, tg4, c5, h⟩ := h
  refine Runs.cl (cm := 199) (as := [.ref 93]) (rest := [.int x3]) (r1 := ((some (.int v1)), (zS I2 J3 tg4))) rfl (Nat.le_of_ble_eq_true rfl) c5 ?_
  refine Runs.as (c' := (7, [.ref 93, .int x1, .int x2, .int x3, vU, vU], [.int v1, .int x3], (zS I2 J3 tg4))) rfl ?_
  by_cases c6 : v1 < x3
  · rw [if_pos c6] at h
    refine Runs.brT (P := v1 < x3) (a := 23) (b := 10) (L := [.ref 93, .int x1, .int x2, .int x3, vU, vU]) (S := []) (z := (zS I2 J3 tg4)) rfl c6 ?_
    refine Runs.sN 2 (c' := (25, [.ref 93, .int x1, .int x2, .int 0, vU, vU], [], (zS I2 J3 tg4))) rfl ?_
    exact h
  · rw [if_neg c6] at h
    refine Runs.brF (P := v1 < x3) (a := 23) (b := 10) (L := [.ref 93, .int x1, .int x2, .int x3, vU, vU]) (S := []) (z := (zS I2 J3 tg4)) rfl c6 ?_
    refine Runs.sN 4 (c' := (16, [.ref 93, .int x1, .int x2, .int x3, vU, vU], [.int 1, .int x3, .ref 112], (zS I2 J3 tg4))) rfl ?_
    obtain ⟨c7, h⟩ := h
    obtain ⟨c8, h⟩ := h
    refine Runs.to (c' := (17, [.ref 93, .int x1, .int x2, .int x3, vU, vU], [], (zS (up2 I2 112 ((x3).toNatClampNeg) 1) J3 tg4))) (Runs.zst rfl (show (112 : Nat) < 114 by decide) rfl c7 c8) ?_
    refine Runs.sN 2 (c' := (2, [.ref 93, .int x1, .int x2, .int (x3 + 1), vU, vU], [], (zS (up2 I2 112 ((x3).toNatClampNeg) 1) J3 tg4))) rfl ?_
    exact h
theorem sg_290_25 {L d : Nat} {xs : Nat → Int32} (I : Nat → Nat → Int32) (J : Nat → Nat → Int64) (tg : Option Nat) (x1 : Int32) (x2 : Int32) (x3 : Int32) {r : Option Value × SS} (h : ((if (I 94 7) ≤ x3 then (r = (none, (zS I J tg))) else (¬ ((890 + (5 * x3)) < 0 ∨ 1200 ≤ (890 + (5 * x3)).toNatClampNeg) ∧ (if (I 94 ((890 + (5 * x3)).toNatClampNeg)) = x1 then (¬ (((890 + (5 * x3)) + 4) < 0 ∨ 1200 ≤ ((890 + (5 * x3)) + 4).toNatClampNeg) ∧ (if (I 94 (((890 + (5 * x3)) + 4).toNatClampNeg)) ≤ x2 then (¬ (((890 + (5 * x3)) + 2) < 0 ∨ 1200 ≤ ((890 + (5 * x3)) + 2).toNatClampNeg) ∧ ¬ (((890 + (5 * x3)) + 1) < 0 ∨ 1200 ≤ ((890 + (5 * x3)) + 1).toNatClampNeg) ∧ ∃ (I1 : Nat → Nat → Int32) (J2 : Nat → Nat → Int64) (tg3 : Option Nat), Runs (GW L xs) d 203 (0, [.ref 93, .int (I 94 (((890 + (5 * x3)) + 2).toNatClampNeg)), .int (I 94 (((890 + (5 * x3)) + 1).toNatClampNeg)), vU], [], (zS I J tg)) (none, (zS I1 J2 tg3)) ∧ Runs (GW L xs) (d + 1) 290 (97, [.ref 93, .int x1, .int x2, .int x3, .int (890 + (5 * x3)), .int 0], [], (zS I1 J2 tg3)) r) else (Runs (GW L xs) (d + 1) 290 (25, [.ref 93, .int x1, .int x2, .int (x3 + 1), vU, vU], [], (zS I J tg)) r))) else (Runs (GW L xs) (d + 1) 290 (25, [.ref 93, .int x1, .int x2, .int (x3 + 1), vU, vU], [], (zS I J tg)) r)))))) : Runs (GW L xs) (d + 1) 290 (25, [.ref 93, .int x1, .int x2, .int x3, vU, vU], [], (zS I J tg)) r := by
  refine Runs.sN 5 (c' := (33, [.ref 93, .int x1, .int x2, .int x3, vU, vU], [.int (I 94 7), .int x3], (zS I J tg))) rfl ?_
  by_cases c4 : (I 94 7) ≤ x3
  · rw [if_pos c4] at h
    refine Runs.brT (P := (I 94 7) ≤ x3) (a := 160) (b := 36) (L := [.ref 93, .int x1, .int x2, .int x3, vU, vU]) (S := []) (z := (zS I J tg)) rfl c4 ?_
    subst h
    exact Runs.rt rfl
  · rw [if_neg c4] at h
    refine Runs.brF (P := (I 94 7) ≤ x3) (a := 160) (b := 36) (L := [.ref 93, .int x1, .int x2, .int x3, vU, vU]) (S := []) (z := (zS I J tg)) rfl c4 ?_
    refine Runs.sN 9 (c' := (51, [.ref 93, .int x1, .int x2, .int x3, .int (890 + (5 * x3)), vU], [.int (890 + (5 * x3)), .ref 94], (zS I J tg))) rfl ?_
    obtain ⟨c5, h⟩ := h
    refine Runs.to (c' := (52, [.ref 93, .int x1, .int x2, .int x3, .int (890 + (5 * x3)), vU], [.int (I 94 ((890 + (5 * x3)).toNatClampNeg))], (zS I J tg))) (Runs.ild rfl (show (94 : Nat) < 114 by decide) rfl c5) ?_
    refine Runs.sN 1 (c' := (53, [.ref 93, .int x1, .int x2, .int x3, .int (890 + (5 * x3)), vU], [.int x1, .int (I 94 ((890 + (5 * x3)).toNatClampNeg))], (zS I J tg))) rfl ?_
    by_cases c6 : (I 94 ((890 + (5 * x3)).toNatClampNeg)) = x1
    · rw [if_pos c6] at h
      refine Runs.brT (P := (I 94 ((890 + (5 * x3)).toNatClampNeg)) = x1) (a := 56) (b := 154) (L := [.ref 93, .int x1, .int x2, .int x3, .int (890 + (5 * x3)), vU]) (S := []) (z := (zS I J tg)) rfl c6 ?_
      refine Runs.sN 5 (c' := (64, [.ref 93, .int x1, .int x2, .int x3, .int (890 + (5 * x3)), vU], [.int ((890 + (5 * x3)) + 4), .ref 94], (zS I J tg))) rfl ?_
      obtain ⟨c7, h⟩ := h
      refine Runs.to (c' := (65, [.ref 93, .int x1, .int x2, .int x3, .int (890 + (5 * x3)), vU], [.int (I 94 (((890 + (5 * x3)) + 4).toNatClampNeg))], (zS I J tg))) (Runs.ild rfl (show (94 : Nat) < 114 by decide) rfl c7) ?_
      refine Runs.sN 1 (c' := (66, [.ref 93, .int x1, .int x2, .int x3, .int (890 + (5 * x3)), vU], [.int x2, .int (I 94 (((890 + (5 * x3)) + 4).toNatClampNeg))], (zS I J tg))) rfl ?_
      by_cases c8 : (I 94 (((890 + (5 * x3)) + 4).toNatClampNeg)) ≤ x2
      · rw [if_pos c8] at h
        refine Runs.brT (P := (I 94 (((890 + (5 * x3)) + 4).toNatClampNeg)) ≤ x2) (a := 72) (b := 69) (L := [.ref 93, .int x1, .int x2, .int x3, .int (890 + (5 * x3)), vU]) (S := []) (z := (zS I J tg)) rfl c8 ?_
        refine Runs.sN 6 (c' := (81, [.ref 93, .int x1, .int x2, .int x3, .int (890 + (5 * x3)), vU], [.int ((890 + (5 * x3)) + 2), .ref 94, .ref 93], (zS I J tg))) rfl ?_
        obtain ⟨c9, h⟩ := h
        refine Runs.to (c' := (82, [.ref 93, .int x1, .int x2, .int x3, .int (890 + (5 * x3)), vU], [.int (I 94 (((890 + (5 * x3)) + 2).toNatClampNeg)), .ref 93], (zS I J tg))) (Runs.ild rfl (show (94 : Nat) < 114 by decide) rfl c9) ?_
        refine Runs.sN 5 (c' := (90, [.ref 93, .int x1, .int x2, .int x3, .int (890 + (5 * x3)), vU], [.int ((890 + (5 * x3)) + 1), .ref 94, .int (I 94 (((890 + (5 * x3)) + 2).toNatClampNeg)), .ref 93], (zS I J tg))) rfl ?_
        obtain ⟨c10, h⟩ := h
        refine Runs.to (c' := (91, [.ref 93, .int x1, .int x2, .int x3, .int (890 + (5 * x3)), vU], [.int (I 94 (((890 + (5 * x3)) + 1).toNatClampNeg)), .int (I 94 (((890 + (5 * x3)) + 2).toNatClampNeg)), .ref 93], (zS I J tg))) (Runs.ild rfl (show (94 : Nat) < 114 by decide) rfl c10) ?_
        obtain ⟨I1, J2, tg3, c11, h⟩ := h
        refine Runs.cl (cm := 203) (as := [.ref 93, .int (I 94 (((890 + (5 * x3)) + 2).toNatClampNeg)), .int (I 94 (((890 + (5 * x3)) + 1).toNatClampNeg))]) (rest := []) (r1 := (none, (zS I1 J2 tg3))) rfl (Nat.le_of_ble_eq_true rfl) c11 ?_
        refine Runs.as (c' := (94, [.ref 93, .int x1, .int x2, .int x3, .int (890 + (5 * x3)), vU], [], (zS I1 J2 tg3))) rfl ?_
        refine Runs.sN 2 (c' := (97, [.ref 93, .int x1, .int x2, .int x3, .int (890 + (5 * x3)), .int 0], [], (zS I1 J2 tg3))) rfl ?_
        exact h
      · rw [if_neg c8] at h
        refine Runs.brF (P := (I 94 (((890 + (5 * x3)) + 4).toNatClampNeg)) ≤ x2) (a := 72) (b := 69) (L := [.ref 93, .int x1, .int x2, .int x3, .int (890 + (5 * x3)), vU]) (S := []) (z := (zS I J tg)) rfl c8 ?_
        refine Runs.sN 3 (c' := (25, [.ref 93, .int x1, .int x2, .int (x3 + 1), .int (890 + (5 * x3)), vU], [], (zS I J tg))) rfl ?_
        exact Runs.weak (L := [.ref 93, .int x1, .int x2, .int (x3 + 1), vU, vU]) (Lle.k (Lle.k (Lle.k (Lle.k (Lle.u (Lle.k Lle.n)))))) h
    · rw [if_neg c6] at h
      refine Runs.brF (P := (I 94 ((890 + (5 * x3)).toNatClampNeg)) = x1) (a := 56) (b := 154) (L := [.ref 93, .int x1, .int x2, .int x3, .int (890 + (5 * x3)), vU]) (S := []) (z := (zS I J tg)) rfl c6 ?_
      refine Runs.sN 2 (c' := (25, [.ref 93, .int x1, .int x2, .int (x3 + 1), .int (890 + (5 * x3)), vU], [], (zS I J tg))) rfl ?_
      exact Runs.weak (L := [.ref 93, .int x1, .int x2, .int (x3 + 1), vU, vU]) (Lle.k (Lle.k (Lle.k (Lle.k (Lle.u (Lle.k Lle.n)))))) h
theorem sg_290_97 {L d : Nat} {xs : Nat → Int32} (I : Nat → Nat → Int32) (J : Nat → Nat → Int64) (tg : Option Nat) (x1 : Int32) (x2 : Int32) (x3 : Int32) (x4 : Int32) (x5 : Int32) {r : Option Value × SS} (h : (∃ (v1 : Int32) (I2 : Nat → Nat → Int32) (J3 : Nat → Nat → Int64) (tg4 : Option Nat), Runs (GW L xs) d 199 (0, [.ref 93], [], (zS I J tg)) ((some (.int v1)), (zS I2 J3 tg4)) ∧ (if v1 < x5 then (Runs (GW L xs) (d + 1) 290 (25, [.ref 93, .int x1, .int x2, .int (x3 + 1), vU, vU], [], (zS I2 J3 tg4)) r) else (¬ (x5 < 0 ∨ 4096 ≤ (x5).toNatClampNeg) ∧ (if (I2 112 ((x5).toNatClampNeg)) = 0 then (Runs (GW L xs) (d + 1) 290 (97, [.ref 93, .int x1, .int x2, .int x3, .int x4, .int (x5 + 1)], [], (zS I2 J3 tg4)) r) else (∃ (v5 : Int32) (I6 : Nat → Nat → Int32) (J7 : Nat → Nat → Int64) (tg8 : Option Nat), Runs (GW L xs) d 204 (0, [.ref 93, .int x5, .int 0, .int 0, vU, vU, vU, vU, vU], [], (zS I2 J3 tg4)) ((some (.int v5)), (zS I6 J7 tg8)) ∧ ¬ ((x4 + 3) < 0 ∨ 1200 ≤ (x4 + 3).toNatClampNeg) ∧ (if v5 = (I6 94 ((x4 + 3).toNatClampNeg)) then (¬ (x5 < 0 ∨ 4096 ≤ (x5).toNatClampNeg) ∧ (1 = 0 ∨ 1 = 1) ∧ Runs (GW L xs) (d + 1) 290 (97, [.ref 93, .int x1, .int x2, .int x3, .int x4, .int (x5 + 1)], [], (zS (up2 I6 112 ((x5).toNatClampNeg) 1) J7 tg8)) r) else (¬ (x5 < 0 ∨ 4096 ≤ (x5).toNatClampNeg) ∧ (0 = 0 ∨ 0 = 1) ∧ Runs (GW L xs) (d + 1) 290 (97, [.ref 93, .int x1, .int x2, .int x3, .int x4, .int (x5 + 1)], [], (zS (up2 I6 112 ((x5).toNatClampNeg) 0) J7 tg8)) r)))))))) : Runs (GW L xs) (d + 1) 290 (97, [.ref 93, .int x1, .int x2, .int x3, .int x4, .int x5], [], (zS I J tg)) r := by
  refine Runs.sN 2 (c' := (100, [.ref 93, .int x1, .int x2, .int x3, .int x4, .int x5], [.ref 93, .int x5], (zS I J tg))) rfl ?_
  obtain ⟨v1, I2, J3, tg4, c9, h⟩ := h
  refine Runs.cl (cm := 199) (as := [.ref 93]) (rest := [.int x5]) (r1 := ((some (.int v1)), (zS I2 J3 tg4))) rfl (Nat.le_of_ble_eq_true rfl) c9 ?_
  refine Runs.as (c' := (103, [.ref 93, .int x1, .int x2, .int x3, .int x4, .int x5], [.int v1, .int x5], (zS I2 J3 tg4))) rfl ?_
  by_cases c10 : v1 < x5
  · rw [if_pos c10] at h
    refine Runs.brT (P := v1 < x5) (a := 154) (b := 106) (L := [.ref 93, .int x1, .int x2, .int x3, .int x4, .int x5]) (S := []) (z := (zS I2 J3 tg4)) rfl c10 ?_
    refine Runs.sN 2 (c' := (25, [.ref 93, .int x1, .int x2, .int (x3 + 1), .int x4, .int x5], [], (zS I2 J3 tg4))) rfl ?_
    exact Runs.weak (L := [.ref 93, .int x1, .int x2, .int (x3 + 1), vU, vU]) (Lle.k (Lle.k (Lle.k (Lle.k (Lle.u (Lle.u Lle.n)))))) h
  · rw [if_neg c10] at h
    refine Runs.brF (P := v1 < x5) (a := 154) (b := 106) (L := [.ref 93, .int x1, .int x2, .int x3, .int x4, .int x5]) (S := []) (z := (zS I2 J3 tg4)) rfl c10 ?_
    refine Runs.sN 3 (c' := (112, [.ref 93, .int x1, .int x2, .int x3, .int x4, .int x5], [.int x5, .ref 112], (zS I2 J3 tg4))) rfl ?_
    obtain ⟨c11, h⟩ := h
    refine Runs.to (c' := (113, [.ref 93, .int x1, .int x2, .int x3, .int x4, .int x5], [.int (I2 112 ((x5).toNatClampNeg))], (zS I2 J3 tg4))) (Runs.zld rfl (show (112 : Nat) < 114 by decide) rfl c11) ?_
    by_cases c12 : (I2 112 ((x5).toNatClampNeg)) = 0
    · rw [if_pos c12] at h
      refine Runs.brT (P := (I2 112 ((x5).toNatClampNeg)) = 0) (a := 148) (b := 116) (L := [.ref 93, .int x1, .int x2, .int x3, .int x4, .int x5]) (S := []) (z := (zS I2 J3 tg4)) rfl c12 ?_
      refine Runs.sN 2 (c' := (97, [.ref 93, .int x1, .int x2, .int x3, .int x4, .int (x5 + 1)], [], (zS I2 J3 tg4))) rfl ?_
      exact h
    · rw [if_neg c12] at h
      refine Runs.brF (P := (I2 112 ((x5).toNatClampNeg)) = 0) (a := 148) (b := 116) (L := [.ref 93, .int x1, .int x2, .int x3, .int x4, .int x5]) (S := []) (z := (zS I2 J3 tg4)) rfl c12 ?_
      refine Runs.sN 7 (c' := (127, [.ref 93, .int x1, .int x2, .int x3, .int x4, .int x5], [.int 0, .int 0, .int x5, .ref 93, .int x5, .ref 112], (zS I2 J3 tg4))) rfl ?_
      obtain ⟨v5, I6, J7, tg8, c13, h⟩ := h
      refine Runs.cl (cm := 204) (as := [.ref 93, .int x5, .int 0, .int 0]) (rest := [.int x5, .ref 112]) (r1 := ((some (.int v5)), (zS I6 J7 tg8))) rfl (Nat.le_of_ble_eq_true rfl) c13 ?_
      refine Runs.as (c' := (130, [.ref 93, .int x1, .int x2, .int x3, .int x4, .int x5], [.int v5, .int x5, .ref 112], (zS I6 J7 tg8))) rfl ?_
      refine Runs.sN 5 (c' := (138, [.ref 93, .int x1, .int x2, .int x3, .int x4, .int x5], [.int (x4 + 3), .ref 94, .int v5, .int x5, .ref 112], (zS I6 J7 tg8))) rfl ?_
      obtain ⟨c14, h⟩ := h
      refine Runs.to (c' := (139, [.ref 93, .int x1, .int x2, .int x3, .int x4, .int x5], [.int (I6 94 ((x4 + 3).toNatClampNeg)), .int v5, .int x5, .ref 112], (zS I6 J7 tg8))) (Runs.ild rfl (show (94 : Nat) < 114 by decide) rfl c14) ?_
      by_cases c15 : v5 = (I6 94 ((x4 + 3).toNatClampNeg))
      · rw [if_pos c15] at h
        refine Runs.brT (P := v5 = (I6 94 ((x4 + 3).toNatClampNeg))) (a := 142) (b := 146) (L := [.ref 93, .int x1, .int x2, .int x3, .int x4, .int x5]) (S := [.int x5, .ref 112]) (z := (zS I6 J7 tg8)) rfl c15 ?_
        refine Runs.sN 2 (c' := (147, [.ref 93, .int x1, .int x2, .int x3, .int x4, .int x5], [.int 1, .int x5, .ref 112], (zS I6 J7 tg8))) rfl ?_
        obtain ⟨c16, h⟩ := h
        obtain ⟨c17, h⟩ := h
        refine Runs.to (c' := (148, [.ref 93, .int x1, .int x2, .int x3, .int x4, .int x5], [], (zS (up2 I6 112 ((x5).toNatClampNeg) 1) J7 tg8))) (Runs.zst rfl (show (112 : Nat) < 114 by decide) rfl c16 c17) ?_
        refine Runs.sN 2 (c' := (97, [.ref 93, .int x1, .int x2, .int x3, .int x4, .int (x5 + 1)], [], (zS (up2 I6 112 ((x5).toNatClampNeg) 1) J7 tg8))) rfl ?_
        exact h
      · rw [if_neg c15] at h
        refine Runs.brF (P := v5 = (I6 94 ((x4 + 3).toNatClampNeg))) (a := 142) (b := 146) (L := [.ref 93, .int x1, .int x2, .int x3, .int x4, .int x5]) (S := [.int x5, .ref 112]) (z := (zS I6 J7 tg8)) rfl c15 ?_
        refine Runs.sN 1 (c' := (147, [.ref 93, .int x1, .int x2, .int x3, .int x4, .int x5], [.int 0, .int x5, .ref 112], (zS I6 J7 tg8))) rfl ?_
        obtain ⟨c18, h⟩ := h
        obtain ⟨c19, h⟩ := h
        refine Runs.to (c' := (148, [.ref 93, .int x1, .int x2, .int x3, .int x4, .int x5], [], (zS (up2 I6 112 ((x5).toNatClampNeg) 0) J7 tg8))) (Runs.zst rfl (show (112 : Nat) < 114 by decide) rfl c18 c19) ?_
        refine Runs.sN 2 (c' := (97, [.ref 93, .int x1, .int x2, .int x3, .int x4, .int (x5 + 1)], [], (zS (up2 I6 112 ((x5).toNatClampNeg) 0) J7 tg8))) rfl ?_
        exact h
-- X12_isDay 
theorem sg_291 {L d : Nat} {xs : Nat → Int32} (I : Nat → Nat → Int32) (J : Nat → Nat → Int64) (tg : Option Nat) (a1 : Int32) {r : Option Value × SS} (h : (∃ (v5 : Int32) (I6 : Nat → Nat → Int32) (J7 : Nat → Nat → Int64) (tg8 : Option Nat), Runs (GW L xs) d 177 (0, [.int a1, .int 0, .int 999], [], (zS I J tg)) ((some (.int v5)), (zS I6 J7 tg8)) ∧ (v5 = 0 ∨ v5 = 1) ∧ r = (some (.int v5), (zS I6 J7 tg8)))) : Runs (GW L xs) (d + 1) 291 (0, [.int a1], [], (zS I J tg)) r := by
  refine Runs.sN 3 (c' := (5, [.int a1], [.int 999, .int 0, .int a1], (zS I J tg))) rfl ?_
  obtain ⟨v5, I6, J7, tg8, c9, h⟩ := h
  refine Runs.cl (cm := 177) (as := [.int a1, .int 0, .int 999]) (rest := []) (r1 := ((some (.int v5)), (zS I6 J7 tg8))) rfl (Nat.le_of_ble_eq_true rfl) c9 ?_
  refine Runs.as (c' := (8, [.int a1], [.int v5], (zS I6 J7 tg8))) rfl ?_
  obtain ⟨h0, h⟩ := h
  subst h
  exact Runs.zrt rfl rfl h0
-- X12_minds 
theorem sg_292 {L d : Nat} {xs : Nat → Int32} (I : Nat → Nat → Int32) (J : Nat → Nat → Int64) (tg : Option Nat) (a1 : Int32) (a2 : Int32) (a3 : Int32) {r : Option Value × SS} (h : (∃ (v27 : Int32) (I28 : Nat → Nat → Int32) (J29 : Nat → Nat → Int64) (tg30 : Option Nat), Runs (GW L xs) d 182 (0, [.int a1], [], (zS I J tg)) ((some (.int v27)), (zS I28 J29 tg30)) ∧ (if v27 = 0 then (r = (some (.int (-1)), (zS I28 J29 tg30))) else (∃ (v31 : Int32) (I32 : Nat → Nat → Int32) (J33 : Nat → Nat → Int64) (tg34 : Option Nat), Runs (GW L xs) d 291 (0, [.int a2], [], (zS I28 J29 tg30)) ((some (.int v31)), (zS I32 J33 tg34)) ∧ (if v31 = 0 then (r = (some (.int (-1)), (zS I32 J33 tg34))) else ((if (-1) ≤ a3 then (∃ (I35 : Nat → Nat → Int32) (J36 : Nat → Nat → Int64) (tg37 : Option Nat), Runs (GW L xs) d 290 (0, [.ref 93, .int a1, .int a2, vU, vU, vU], [], (zS I32 J33 tg34)) (none, (zS I35 J36 tg37)) ∧ Runs (GW L xs) (d + 1) 292 (33, [.ref 93, .int a1, .int a2, .int a3, .int 0, .int 0], [], (zS I35 J36 tg37)) r) else (r = (some (.int (-1)), (zS I32 J33 tg34)))))))))) : Runs (GW L xs) (d + 1) 292 (0, [.ref 93, .int a1, .int a2, .int a3, vU, vU], [], (zS I J tg)) r := by
  refine Runs.sN 1 (c' := (1, [.ref 93, .int a1, .int a2, .int a3, vU, vU], [.int a1], (zS I J tg))) rfl ?_
  obtain ⟨v27, I28, J29, tg30, c38, h⟩ := h
  refine Runs.cl (cm := 182) (as := [.int a1]) (rest := []) (r1 := ((some (.int v27)), (zS I28 J29 tg30))) rfl (Nat.le_of_ble_eq_true rfl) c38 ?_
  refine Runs.as (c' := (4, [.ref 93, .int a1, .int a2, .int a3, vU, vU], [.int v27], (zS I28 J29 tg30))) rfl ?_
  by_cases c39 : v27 = 0
  · rw [if_pos c39] at h
    refine Runs.brT (P := v27 = 0) (a := 19) (b := 7) (L := [.ref 93, .int a1, .int a2, .int a3, vU, vU]) (S := []) (z := (zS I28 J29 tg30)) rfl c39 ?_
    refine Runs.sN 1 (c' := (20, [.ref 93, .int a1, .int a2, .int a3, vU, vU], [.int (-1)], (zS I28 J29 tg30))) rfl ?_
    subst h
    exact Runs.rt rfl
  · rw [if_neg c39] at h
    refine Runs.brF (P := v27 = 0) (a := 19) (b := 7) (L := [.ref 93, .int a1, .int a2, .int a3, vU, vU]) (S := []) (z := (zS I28 J29 tg30)) rfl c39 ?_
    refine Runs.sN 1 (c' := (8, [.ref 93, .int a1, .int a2, .int a3, vU, vU], [.int a2], (zS I28 J29 tg30))) rfl ?_
    obtain ⟨v31, I32, J33, tg34, c40, h⟩ := h
    refine Runs.cl (cm := 291) (as := [.int a2]) (rest := []) (r1 := ((some (.int v31)), (zS I32 J33 tg34))) rfl (Nat.le_of_ble_eq_true rfl) c40 ?_
    refine Runs.as (c' := (11, [.ref 93, .int a1, .int a2, .int a3, vU, vU], [.int v31], (zS I32 J33 tg34))) rfl ?_
    by_cases c41 : v31 = 0
    · rw [if_pos c41] at h
      refine Runs.brT (P := v31 = 0) (a := 19) (b := 14) (L := [.ref 93, .int a1, .int a2, .int a3, vU, vU]) (S := []) (z := (zS I32 J33 tg34)) rfl c41 ?_
      refine Runs.sN 1 (c' := (20, [.ref 93, .int a1, .int a2, .int a3, vU, vU], [.int (-1)], (zS I32 J33 tg34))) rfl ?_
      subst h
      exact Runs.rt rfl
    · rw [if_neg c41] at h
      refine Runs.brF (P := v31 = 0) (a := 19) (b := 14) (L := [.ref 93, .int a1, .int a2, .int a3, vU, vU]) (S := []) (z := (zS I32 J33 tg34)) rfl c41 ?_
      refine Runs.sN 2 (c' := (16, [.ref 93, .int a1, .int a2, .int a3, vU, vU], [.int (-1), .int a3], (zS I32 J33 tg34))) rfl ?_
      by_cases c42 : (-1) ≤ a3
      · rw [if_pos c42] at h
        refine Runs.brT (P := (-1) ≤ a3) (a := 21) (b := 19) (L := [.ref 93, .int a1, .int a2, .int a3, vU, vU]) (S := []) (z := (zS I32 J33 tg34)) rfl c42 ?_
        refine Runs.sN 3 (c' := (24, [.ref 93, .int a1, .int a2, .int a3, vU, vU], [.int a2, .int a1, .ref 93], (zS I32 J33 tg34))) rfl ?_
        obtain ⟨I35, J36, tg37, c43, h⟩ := h
        refine Runs.cl (cm := 290) (as := [.ref 93, .int a1, .int a2]) (rest := []) (r1 := (none, (zS I35 J36 tg37))) rfl (Nat.le_of_ble_eq_true rfl) c43 ?_
        refine Runs.as (c' := (27, [.ref 93, .int a1, .int a2, .int a3, vU, vU], [], (zS I35 J36 tg37))) rfl ?_
        refine Runs.sN 4 (c' := (33, [.ref 93, .int a1, .int a2, .int a3, .int 0, .int 0], [], (zS I35 J36 tg37))) rfl ?_
        exact h
      · rw [if_neg c42] at h
        refine Runs.brF (P := (-1) ≤ a3) (a := 21) (b := 19) (L := [.ref 93, .int a1, .int a2, .int a3, vU, vU]) (S := []) (z := (zS I32 J33 tg34)) rfl c42 ?_
        refine Runs.sN 1 (c' := (20, [.ref 93, .int a1, .int a2, .int a3, vU, vU], [.int (-1)], (zS I32 J33 tg34))) rfl ?_
        subst h
        exact Runs.rt rfl
theorem sg_292_33 {L d : Nat} {xs : Nat → Int32} (I : Nat → Nat → Int32) (J : Nat → Nat → Int64) (tg : Option Nat) (x1 : Int32) (x2 : Int32) (x3 : Int32) (x4 : Int32) (x5 : Int32) {r : Option Value × SS} (h : (∃ (v1 : Int32) (I2 : Nat → Nat → Int32) (J3 : Nat → Nat → Int64) (tg4 : Option Nat), Runs (GW L xs) d 199 (0, [.ref 93], [], (zS I J tg)) ((some (.int v1)), (zS I2 J3 tg4)) ∧ (if v1 < x5 then ((if x3 = (-1) then (r = (some (.int x4), (zS I2 J3 tg4))) else (r = (some (.int (-1)), (zS I2 J3 tg4))))) else (¬ (x5 < 0 ∨ 4096 ≤ (x5).toNatClampNeg) ∧ (if (I2 112 ((x5).toNatClampNeg)) = 0 then (Runs (GW L xs) (d + 1) 292 (33, [.ref 93, .int x1, .int x2, .int x3, .int x4, .int (x5 + 1)], [], (zS I2 J3 tg4)) r) else ((if x4 = x3 then (r = (some (.int x5), (zS I2 J3 tg4))) else (Runs (GW L xs) (d + 1) 292 (33, [.ref 93, .int x1, .int x2, .int x3, .int (x4 + 1), .int (x5 + 1)], [], (zS I2 J3 tg4)) r)))))))) : Runs (GW L xs) (d + 1) 292 (33, [.ref 93, .int x1, .int x2, .int x3, .int x4, .int x5], [], (zS I J tg)) r := by
  refine Runs.sN 2 (c' := (36, [.ref 93, .int x1, .int x2, .int x3, .int x4, .int x5], [.ref 93, .int x5], (zS I J tg))) rfl ?_
  obtain ⟨v1, I2, J3, tg4, c5, h⟩ := h
  refine Runs.cl (cm := 199) (as := [.ref 93]) (rest := [.int x5]) (r1 := ((some (.int v1)), (zS I2 J3 tg4))) rfl (Nat.le_of_ble_eq_true rfl) c5 ?_
  refine Runs.as (c' := (39, [.ref 93, .int x1, .int x2, .int x3, .int x4, .int x5], [.int v1, .int x5], (zS I2 J3 tg4))) rfl ?_
  by_cases c6 : v1 < x5
  · rw [if_pos c6] at h
    refine Runs.brT (P := v1 < x5) (a := 73) (b := 42) (L := [.ref 93, .int x1, .int x2, .int x3, .int x4, .int x5]) (S := []) (z := (zS I2 J3 tg4)) rfl c6 ?_
    refine Runs.sN 2 (c' := (75, [.ref 93, .int x1, .int x2, .int x3, .int x4, .int x5], [.int (-1), .int x3], (zS I2 J3 tg4))) rfl ?_
    by_cases c7 : x3 = (-1)
    · rw [if_pos c7] at h
      refine Runs.brT (P := x3 = (-1)) (a := 78) (b := 83) (L := [.ref 93, .int x1, .int x2, .int x3, .int x4, .int x5]) (S := []) (z := (zS I2 J3 tg4)) rfl c7 ?_
      refine Runs.sN 2 (c' := (84, [.ref 93, .int x1, .int x2, .int x3, .int x4, .int x5], [.int x4], (zS I2 J3 tg4))) rfl ?_
      subst h
      exact Runs.rt rfl
    · rw [if_neg c7] at h
      refine Runs.brF (P := x3 = (-1)) (a := 78) (b := 83) (L := [.ref 93, .int x1, .int x2, .int x3, .int x4, .int x5]) (S := []) (z := (zS I2 J3 tg4)) rfl c7 ?_
      refine Runs.sN 1 (c' := (84, [.ref 93, .int x1, .int x2, .int x3, .int x4, .int x5], [.int (-1)], (zS I2 J3 tg4))) rfl ?_
      subst h
      exact Runs.rt rfl
  · rw [if_neg c6] at h
    refine Runs.brF (P := v1 < x5) (a := 73) (b := 42) (L := [.ref 93, .int x1, .int x2, .int x3, .int x4, .int x5]) (S := []) (z := (zS I2 J3 tg4)) rfl c6 ?_
    refine Runs.sN 3 (c' := (48, [.ref 93, .int x1, .int x2, .int x3, .int x4, .int x5], [.int x5, .ref 112], (zS I2 J3 tg4))) rfl ?_
    obtain ⟨c8, h⟩ := h
    refine Runs.to (c' := (49, [.ref 93, .int x1, .int x2, .int x3, .int x4, .int x5], [.int (I2 112 ((x5).toNatClampNeg))], (zS I2 J3 tg4))) (Runs.zld rfl (show (112 : Nat) < 114 by decide) rfl c8) ?_
    by_cases c9 : (I2 112 ((x5).toNatClampNeg)) = 0
    · rw [if_pos c9] at h
      refine Runs.brT (P := (I2 112 ((x5).toNatClampNeg)) = 0) (a := 52) (b := 55) (L := [.ref 93, .int x1, .int x2, .int x3, .int x4, .int x5]) (S := []) (z := (zS I2 J3 tg4)) rfl c9 ?_
      refine Runs.sN 3 (c' := (33, [.ref 93, .int x1, .int x2, .int x3, .int x4, .int (x5 + 1)], [], (zS I2 J3 tg4))) rfl ?_
      exact h
    · rw [if_neg c9] at h
      refine Runs.brF (P := (I2 112 ((x5).toNatClampNeg)) = 0) (a := 52) (b := 55) (L := [.ref 93, .int x1, .int x2, .int x3, .int x4, .int x5]) (S := []) (z := (zS I2 J3 tg4)) rfl c9 ?_
      refine Runs.sN 2 (c' := (58, [.ref 93, .int x1, .int x2, .int x3, .int x4, .int x5], [.int x3, .int x4], (zS I2 J3 tg4))) rfl ?_
      by_cases c10 : x4 = x3
      · rw [if_pos c10] at h
        refine Runs.brT (P := x4 = x3) (a := 61) (b := 64) (L := [.ref 93, .int x1, .int x2, .int x3, .int x4, .int x5]) (S := []) (z := (zS I2 J3 tg4)) rfl c10 ?_
        refine Runs.sN 1 (c' := (63, [.ref 93, .int x1, .int x2, .int x3, .int x4, .int x5], [.int x5], (zS I2 J3 tg4))) rfl ?_
        subst h
        exact Runs.rt rfl
      · rw [if_neg c10] at h
        refine Runs.brF (P := x4 = x3) (a := 61) (b := 64) (L := [.ref 93, .int x1, .int x2, .int x3, .int x4, .int x5]) (S := []) (z := (zS I2 J3 tg4)) rfl c10 ?_
        refine Runs.sN 3 (c' := (33, [.ref 93, .int x1, .int x2, .int x3, .int (x4 + 1), .int (x5 + 1)], [], (zS I2 J3 tg4))) rfl ?_
        exact h
-- X12_knows 
theorem sg_293 {L d : Nat} {xs : Nat → Int32} (I : Nat → Nat → Int32) (J : Nat → Nat → Int64) (tg : Option Nat) (a1 : Int32) (a2 : Int32) (a3 : Int32) {r : Option Value × SS} (h : (∃ (v35 : Int32) (I36 : Nat → Nat → Int32) (J37 : Nat → Nat → Int64) (tg38 : Option Nat), Runs (GW L xs) d 182 (0, [.int a1], [], (zS I J tg)) ((some (.int v35)), (zS I36 J37 tg38)) ∧ (if v35 = 0 then (r = (some (.int (-1)), (zS I36 J37 tg38))) else (∃ (v39 : Int32) (I40 : Nat → Nat → Int32) (J41 : Nat → Nat → Int64) (tg42 : Option Nat), Runs (GW L xs) d 291 (0, [.int a2], [], (zS I36 J37 tg38)) ((some (.int v39)), (zS I40 J41 tg42)) ∧ (if v39 = 0 then (r = (some (.int (-1)), (zS I40 J41 tg42))) else (∃ (v43 : Int32) (I44 : Nat → Nat → Int32) (J45 : Nat → Nat → Int64) (tg46 : Option Nat), Runs (GW L xs) d 180 (0, [.ref 93, .int a3], [], (zS I40 J41 tg42)) ((some (.int v43)), (zS I44 J45 tg46)) ∧ (if v43 = 0 then (r = (some (.int (-1)), (zS I44 J45 tg46))) else (∃ (I47 : Nat → Nat → Int32) (J48 : Nat → Nat → Int64) (tg49 : Option Nat), Runs (GW L xs) d 290 (0, [.ref 93, .int a1, .int a2, vU, vU, vU], [], (zS I44 J45 tg46)) (none, (zS I47 J48 tg49)) ∧ Runs (GW L xs) (d + 1) 293 (39, [.ref 93, .int a1, .int a2, .int a3, .int 0, .int 0, .int 0], [], (zS I47 J48 tg49)) r)))))))) : Runs (GW L xs) (d + 1) 293 (0, [.ref 93, .int a1, .int a2, .int a3, vU, vU, vU], [], (zS I J tg)) r := by
  refine Runs.sN 1 (c' := (1, [.ref 93, .int a1, .int a2, .int a3, vU, vU, vU], [.int a1], (zS I J tg))) rfl ?_
  obtain ⟨v35, I36, J37, tg38, c50, h⟩ := h
  refine Runs.cl (cm := 182) (as := [.int a1]) (rest := []) (r1 := ((some (.int v35)), (zS I36 J37 tg38))) rfl (Nat.le_of_ble_eq_true rfl) c50 ?_
  refine Runs.as (c' := (4, [.ref 93, .int a1, .int a2, .int a3, vU, vU, vU], [.int v35], (zS I36 J37 tg38))) rfl ?_
  by_cases c51 : v35 = 0
  · rw [if_pos c51] at h
    refine Runs.brT (P := v35 = 0) (a := 22) (b := 7) (L := [.ref 93, .int a1, .int a2, .int a3, vU, vU, vU]) (S := []) (z := (zS I36 J37 tg38)) rfl c51 ?_
    refine Runs.sN 1 (c' := (23, [.ref 93, .int a1, .int a2, .int a3, vU, vU, vU], [.int (-1)], (zS I36 J37 tg38))) rfl ?_
    subst h
    exact Runs.rt rfl
  · rw [if_neg c51] at h
    refine Runs.brF (P := v35 = 0) (a := 22) (b := 7) (L := [.ref 93, .int a1, .int a2, .int a3, vU, vU, vU]) (S := []) (z := (zS I36 J37 tg38)) rfl c51 ?_
    refine Runs.sN 1 (c' := (8, [.ref 93, .int a1, .int a2, .int a3, vU, vU, vU], [.int a2], (zS I36 J37 tg38))) rfl ?_
    obtain ⟨v39, I40, J41, tg42, c52, h⟩ := h
    refine Runs.cl (cm := 291) (as := [.int a2]) (rest := []) (r1 := ((some (.int v39)), (zS I40 J41 tg42))) rfl (Nat.le_of_ble_eq_true rfl) c52 ?_
    refine Runs.as (c' := (11, [.ref 93, .int a1, .int a2, .int a3, vU, vU, vU], [.int v39], (zS I40 J41 tg42))) rfl ?_
    by_cases c53 : v39 = 0
    · rw [if_pos c53] at h
      refine Runs.brT (P := v39 = 0) (a := 22) (b := 14) (L := [.ref 93, .int a1, .int a2, .int a3, vU, vU, vU]) (S := []) (z := (zS I40 J41 tg42)) rfl c53 ?_
      refine Runs.sN 1 (c' := (23, [.ref 93, .int a1, .int a2, .int a3, vU, vU, vU], [.int (-1)], (zS I40 J41 tg42))) rfl ?_
      subst h
      exact Runs.rt rfl
    · rw [if_neg c53] at h
      refine Runs.brF (P := v39 = 0) (a := 22) (b := 14) (L := [.ref 93, .int a1, .int a2, .int a3, vU, vU, vU]) (S := []) (z := (zS I40 J41 tg42)) rfl c53 ?_
      refine Runs.sN 2 (c' := (16, [.ref 93, .int a1, .int a2, .int a3, vU, vU, vU], [.int a3, .ref 93], (zS I40 J41 tg42))) rfl ?_
      obtain ⟨v43, I44, J45, tg46, c54, h⟩ := h
      refine Runs.cl (cm := 180) (as := [.ref 93, .int a3]) (rest := []) (r1 := ((some (.int v43)), (zS I44 J45 tg46))) rfl (Nat.le_of_ble_eq_true rfl) c54 ?_
      refine Runs.as (c' := (19, [.ref 93, .int a1, .int a2, .int a3, vU, vU, vU], [.int v43], (zS I44 J45 tg46))) rfl ?_
      by_cases c55 : v43 = 0
      · rw [if_pos c55] at h
        refine Runs.brT (P := v43 = 0) (a := 22) (b := 24) (L := [.ref 93, .int a1, .int a2, .int a3, vU, vU, vU]) (S := []) (z := (zS I44 J45 tg46)) rfl c55 ?_
        refine Runs.sN 1 (c' := (23, [.ref 93, .int a1, .int a2, .int a3, vU, vU, vU], [.int (-1)], (zS I44 J45 tg46))) rfl ?_
        subst h
        exact Runs.rt rfl
      · rw [if_neg c55] at h
        refine Runs.brF (P := v43 = 0) (a := 22) (b := 24) (L := [.ref 93, .int a1, .int a2, .int a3, vU, vU, vU]) (S := []) (z := (zS I44 J45 tg46)) rfl c55 ?_
        refine Runs.sN 3 (c' := (27, [.ref 93, .int a1, .int a2, .int a3, vU, vU, vU], [.int a2, .int a1, .ref 93], (zS I44 J45 tg46))) rfl ?_
        obtain ⟨I47, J48, tg49, c56, h⟩ := h
        refine Runs.cl (cm := 290) (as := [.ref 93, .int a1, .int a2]) (rest := []) (r1 := (none, (zS I47 J48 tg49))) rfl (Nat.le_of_ble_eq_true rfl) c56 ?_
        refine Runs.as (c' := (30, [.ref 93, .int a1, .int a2, .int a3, vU, vU, vU], [], (zS I47 J48 tg49))) rfl ?_
        refine Runs.sN 6 (c' := (39, [.ref 93, .int a1, .int a2, .int a3, .int 0, .int 0, .int 0], [], (zS I47 J48 tg49))) rfl ?_
        exact h
theorem sg_293_39 {L d : Nat} {xs : Nat → Int32} (I : Nat → Nat → Int32) (J : Nat → Nat → Int64) (tg : Option Nat) (x1 : Int32) (x2 : Int32) (x3 : Int32) (x4 : Int32) (x5 : Int32) (x6 : Int32) {r : Option Value × SS} (h : (∃ (v1 : Int32) (I2 : Nat → Nat → Int32) (J3 : Nat → Nat → Int64) (tg4 : Option Nat), Runs (GW L xs) d 199 (0, [.ref 93], [], (zS I J tg)) ((some (.int v1)), (zS I2 J3 tg4)) ∧ (if v1 < x6 then ((if x4 = 0 then (r = (some (.int 0), (zS I2 J3 tg4))) else ((if x4 = x5 then (r = (some (.int 2), (zS I2 J3 tg4))) else (r = (some (.int 1), (zS I2 J3 tg4))))))) else (¬ (x6 < 0 ∨ 4096 ≤ (x6).toNatClampNeg) ∧ (if (I2 112 ((x6).toNatClampNeg)) = 0 then (Runs (GW L xs) (d + 1) 293 (39, [.ref 93, .int x1, .int x2, .int x3, .int x4, .int x5, .int (x6 + 1)], [], (zS I2 J3 tg4)) r) else (Runs (GW L xs) (d + 1) 293 (39, [.ref 93, .int x1, .int x2, .int x3, .int (x4 + ((x6 >>> ((x3 - 12) &&& 31)) &&& 1)), .int (x5 + 1), .int (x6 + 1)], [], (zS I2 J3 tg4)) r)))))) : Runs (GW L xs) (d + 1) 293 (39, [.ref 93, .int x1, .int x2, .int x3, .int x4, .int x5, .int x6], [], (zS I J tg)) r := by
  refine Runs.sN 2 (c' := (42, [.ref 93, .int x1, .int x2, .int x3, .int x4, .int x5, .int x6], [.ref 93, .int x6], (zS I J tg))) rfl ?_
  obtain ⟨v1, I2, J3, tg4, c5, h⟩ := h
  refine Runs.cl (cm := 199) (as := [.ref 93]) (rest := [.int x6]) (r1 := ((some (.int v1)), (zS I2 J3 tg4))) rfl (Nat.le_of_ble_eq_true rfl) c5 ?_
  refine Runs.as (c' := (45, [.ref 93, .int x1, .int x2, .int x3, .int x4, .int x5, .int x6], [.int v1, .int x6], (zS I2 J3 tg4))) rfl ?_
  by_cases c6 : v1 < x6
  · rw [if_pos c6] at h
    refine Runs.brT (P := v1 < x6) (a := 84) (b := 48) (L := [.ref 93, .int x1, .int x2, .int x3, .int x4, .int x5, .int x6]) (S := []) (z := (zS I2 J3 tg4)) rfl c6 ?_
    refine Runs.sN 1 (c' := (86, [.ref 93, .int x1, .int x2, .int x3, .int x4, .int x5, .int x6], [.int x4], (zS I2 J3 tg4))) rfl ?_
    by_cases c7 : x4 = 0
    · rw [if_pos c7] at h
      refine Runs.brT (P := x4 = 0) (a := 89) (b := 93) (L := [.ref 93, .int x1, .int x2, .int x3, .int x4, .int x5, .int x6]) (S := []) (z := (zS I2 J3 tg4)) rfl c7 ?_
      refine Runs.sN 2 (c' := (105, [.ref 93, .int x1, .int x2, .int x3, .int x4, .int x5, .int x6], [.int 0], (zS I2 J3 tg4))) rfl ?_
      subst h
      exact Runs.rt rfl
    · rw [if_neg c7] at h
      refine Runs.brF (P := x4 = 0) (a := 89) (b := 93) (L := [.ref 93, .int x1, .int x2, .int x3, .int x4, .int x5, .int x6]) (S := []) (z := (zS I2 J3 tg4)) rfl c7 ?_
      refine Runs.sN 2 (c' := (97, [.ref 93, .int x1, .int x2, .int x3, .int x4, .int x5, .int x6], [.int x5, .int x4], (zS I2 J3 tg4))) rfl ?_
      by_cases c8 : x4 = x5
      · rw [if_pos c8] at h
        refine Runs.brT (P := x4 = x5) (a := 100) (b := 104) (L := [.ref 93, .int x1, .int x2, .int x3, .int x4, .int x5, .int x6]) (S := []) (z := (zS I2 J3 tg4)) rfl c8 ?_
        refine Runs.sN 2 (c' := (105, [.ref 93, .int x1, .int x2, .int x3, .int x4, .int x5, .int x6], [.int 2], (zS I2 J3 tg4))) rfl ?_
        subst h
        exact Runs.rt rfl
      · rw [if_neg c8] at h
        refine Runs.brF (P := x4 = x5) (a := 100) (b := 104) (L := [.ref 93, .int x1, .int x2, .int x3, .int x4, .int x5, .int x6]) (S := []) (z := (zS I2 J3 tg4)) rfl c8 ?_
        refine Runs.sN 1 (c' := (105, [.ref 93, .int x1, .int x2, .int x3, .int x4, .int x5, .int x6], [.int 1], (zS I2 J3 tg4))) rfl ?_
        subst h
        exact Runs.rt rfl
  · rw [if_neg c6] at h
    refine Runs.brF (P := v1 < x6) (a := 84) (b := 48) (L := [.ref 93, .int x1, .int x2, .int x3, .int x4, .int x5, .int x6]) (S := []) (z := (zS I2 J3 tg4)) rfl c6 ?_
    refine Runs.sN 3 (c' := (54, [.ref 93, .int x1, .int x2, .int x3, .int x4, .int x5, .int x6], [.int x6, .ref 112], (zS I2 J3 tg4))) rfl ?_
    obtain ⟨c9, h⟩ := h
    refine Runs.to (c' := (55, [.ref 93, .int x1, .int x2, .int x3, .int x4, .int x5, .int x6], [.int (I2 112 ((x6).toNatClampNeg))], (zS I2 J3 tg4))) (Runs.zld rfl (show (112 : Nat) < 114 by decide) rfl c9) ?_
    by_cases c10 : (I2 112 ((x6).toNatClampNeg)) = 0
    · rw [if_pos c10] at h
      refine Runs.brT (P := (I2 112 ((x6).toNatClampNeg)) = 0) (a := 58) (b := 61) (L := [.ref 93, .int x1, .int x2, .int x3, .int x4, .int x5, .int x6]) (S := []) (z := (zS I2 J3 tg4)) rfl c10 ?_
      refine Runs.sN 3 (c' := (39, [.ref 93, .int x1, .int x2, .int x3, .int x4, .int x5, .int (x6 + 1)], [], (zS I2 J3 tg4))) rfl ?_
      exact h
    · rw [if_neg c10] at h
      refine Runs.brF (P := (I2 112 ((x6).toNatClampNeg)) = 0) (a := 58) (b := 61) (L := [.ref 93, .int x1, .int x2, .int x3, .int x4, .int x5, .int x6]) (S := []) (z := (zS I2 J3 tg4)) rfl c10 ?_
      refine Runs.sN 13 (c' := (39, [.ref 93, .int x1, .int x2, .int x3, .int (x4 + ((x6 >>> ((x3 - 12) &&& 31)) &&& 1)), .int (x5 + 1), .int (x6 + 1)], [], (zS I2 J3 tg4))) rfl ?_
      exact h
-- X12_parts 
theorem sg_294 {L d : Nat} {xs : Nat → Int32} (I : Nat → Nat → Int32) (J : Nat → Nat → Int64) (tg : Option Nat) (a1 : Int32) (a2 : Int32) (a3 : Int32) {r : Option Value × SS} (h : (∃ (v78 : Int32) (I79 : Nat → Nat → Int32) (J80 : Nat → Nat → Int64) (tg81 : Option Nat), Runs (GW L xs) d 182 (0, [.int a1], [], (zS I J tg)) ((some (.int v78)), (zS I79 J80 tg81)) ∧ (if v78 = 0 then (r = (some (.int (-1)), (zS I79 J80 tg81))) else (∃ (v82 : Int32) (I83 : Nat → Nat → Int32) (J84 : Nat → Nat → Int64) (tg85 : Option Nat), Runs (GW L xs) d 182 (0, [.int a2], [], (zS I79 J80 tg81)) ((some (.int v82)), (zS I83 J84 tg85)) ∧ (if v82 = 0 then (r = (some (.int (-1)), (zS I83 J84 tg85))) else (∃ (v86 : Int32) (I87 : Nat → Nat → Int32) (J88 : Nat → Nat → Int64) (tg89 : Option Nat), Runs (GW L xs) d 177 (0, [.int a3, .int 0, .int 1], [], (zS I83 J84 tg85)) ((some (.int v86)), (zS I87 J88 tg89)) ∧ (if v86 = 0 then (r = (some (.int (-1)), (zS I87 J88 tg89))) else (∃ (I90 : Nat → Nat → Int32) (J91 : Nat → Nat → Int64) (tg92 : Option Nat), Runs (GW L xs) d 290 (0, [.ref 93, .int a1, .int (I87 94 0), vU, vU, vU], [], (zS I87 J88 tg89)) (none, (zS I90 J91 tg92)) ∧ Runs (GW L xs) (d + 1) 294 (45, [.ref 93, .int a1, .int a2, .int a3, .int (-1), .int 1, .int 0, vU, vU, vU, vU], [], (zS I90 J91 tg92)) r)))))))) : Runs (GW L xs) (d + 1) 294 (0, [.ref 93, .int a1, .int a2, .int a3, vU, vU, vU, vU, vU, vU, vU], [], (zS I J tg)) r := by
  refine Runs.sN 1 (c' := (1, [.ref 93, .int a1, .int a2, .int a3, vU, vU, vU, vU, vU, vU, vU], [.int a1], (zS I J tg))) rfl ?_
  obtain ⟨v78, I79, J80, tg81, c93, h⟩ := h
  refine Runs.cl (cm := 182) (as := [.int a1]) (rest := []) (r1 := ((some (.int v78)), (zS I79 J80 tg81))) rfl (Nat.le_of_ble_eq_true rfl) c93 ?_
  refine Runs.as (c' := (4, [.ref 93, .int a1, .int a2, .int a3, vU, vU, vU, vU, vU, vU, vU], [.int v78], (zS I79 J80 tg81))) rfl ?_
  by_cases c94 : v78 = 0
  · rw [if_pos c94] at h
    refine Runs.brT (P := v78 = 0) (a := 23) (b := 7) (L := [.ref 93, .int a1, .int a2, .int a3, vU, vU, vU, vU, vU, vU, vU]) (S := []) (z := (zS I79 J80 tg81)) rfl c94 ?_
    refine Runs.sN 1 (c' := (24, [.ref 93, .int a1, .int a2, .int a3, vU, vU, vU, vU, vU, vU, vU], [.int (-1)], (zS I79 J80 tg81))) rfl ?_
    subst h
    exact Runs.rt rfl
  · rw [if_neg c94] at h
    refine Runs.brF (P := v78 = 0) (a := 23) (b := 7) (L := [.ref 93, .int a1, .int a2, .int a3, vU, vU, vU, vU, vU, vU, vU]) (S := []) (z := (zS I79 J80 tg81)) rfl c94 ?_
    refine Runs.sN 1 (c' := (8, [.ref 93, .int a1, .int a2, .int a3, vU, vU, vU, vU, vU, vU, vU], [.int a2], (zS I79 J80 tg81))) rfl ?_
    obtain ⟨v82, I83, J84, tg85, c95, h⟩ := h
    refine Runs.cl (cm := 182) (as := [.int a2]) (rest := []) (r1 := ((some (.int v82)), (zS I83 J84 tg85))) rfl (Nat.le_of_ble_eq_true rfl) c95 ?_
    refine Runs.as (c' := (11, [.ref 93, .int a1, .int a2, .int a3, vU, vU, vU, vU, vU, vU, vU], [.int v82], (zS I83 J84 tg85))) rfl ?_
    by_cases c96 : v82 = 0
    · rw [if_pos c96] at h
      refine Runs.brT (P := v82 = 0) (a := 23) (b := 14) (L := [.ref 93, .int a1, .int a2, .int a3, vU, vU, vU, vU, vU, vU, vU]) (S := []) (z := (zS I83 J84 tg85)) rfl c96 ?_
      refine Runs.sN 1 (c' := (24, [.ref 93, .int a1, .int a2, .int a3, vU, vU, vU, vU, vU, vU, vU], [.int (-1)], (zS I83 J84 tg85))) rfl ?_
      subst h
      exact Runs.rt rfl
    · rw [if_neg c96] at h
      refine Runs.brF (P := v82 = 0) (a := 23) (b := 14) (L := [.ref 93, .int a1, .int a2, .int a3, vU, vU, vU, vU, vU, vU, vU]) (S := []) (z := (zS I83 J84 tg85)) rfl c96 ?_
      refine Runs.sN 3 (c' := (17, [.ref 93, .int a1, .int a2, .int a3, vU, vU, vU, vU, vU, vU, vU], [.int 1, .int 0, .int a3], (zS I83 J84 tg85))) rfl ?_
      obtain ⟨v86, I87, J88, tg89, c97, h⟩ := h
      refine Runs.cl (cm := 177) (as := [.int a3, .int 0, .int 1]) (rest := []) (r1 := ((some (.int v86)), (zS I87 J88 tg89))) rfl (Nat.le_of_ble_eq_true rfl) c97 ?_
      refine Runs.as (c' := (20, [.ref 93, .int a1, .int a2, .int a3, vU, vU, vU, vU, vU, vU, vU], [.int v86], (zS I87 J88 tg89))) rfl ?_
      by_cases c98 : v86 = 0
      · rw [if_pos c98] at h
        refine Runs.brT (P := v86 = 0) (a := 23) (b := 25) (L := [.ref 93, .int a1, .int a2, .int a3, vU, vU, vU, vU, vU, vU, vU]) (S := []) (z := (zS I87 J88 tg89)) rfl c98 ?_
        refine Runs.sN 1 (c' := (24, [.ref 93, .int a1, .int a2, .int a3, vU, vU, vU, vU, vU, vU, vU], [.int (-1)], (zS I87 J88 tg89))) rfl ?_
        subst h
        exact Runs.rt rfl
      · rw [if_neg c98] at h
        refine Runs.brF (P := v86 = 0) (a := 23) (b := 25) (L := [.ref 93, .int a1, .int a2, .int a3, vU, vU, vU, vU, vU, vU, vU]) (S := []) (z := (zS I87 J88 tg89)) rfl c98 ?_
        refine Runs.sN 6 (c' := (33, [.ref 93, .int a1, .int a2, .int a3, vU, vU, vU, vU, vU, vU, vU], [.int (I87 94 0), .int a1, .ref 93], (zS I87 J88 tg89))) rfl ?_
        obtain ⟨I90, J91, tg92, c99, h⟩ := h
        refine Runs.cl (cm := 290) (as := [.ref 93, .int a1, .int (I87 94 0)]) (rest := []) (r1 := (none, (zS I90 J91 tg92))) rfl (Nat.le_of_ble_eq_true rfl) c99 ?_
        refine Runs.as (c' := (36, [.ref 93, .int a1, .int a2, .int a3, vU, vU, vU, vU, vU, vU, vU], [], (zS I90 J91 tg92))) rfl ?_
        refine Runs.sN 6 (c' := (45, [.ref 93, .int a1, .int a2, .int a3, .int (-1), .int 1, .int 0, vU, vU, vU, vU], [], (zS I90 J91 tg92))) rfl ?_
        exact h
theorem sg_294_45 {L d : Nat} {xs : Nat → Int32} (I : Nat → Nat → Int32) (J : Nat → Nat → Int64) (tg : Option Nat) (x1 : Int32) (x2 : Int32) (x3 : Int32) (x4 : Int32) (x5 : Int32) (x6 : Int32) {r : Option Value × SS} (h : ((if (I 94 1) ≤ x6 then ((if 0 ≤ x4 then ((if x3 = 0 then (r = (some (.int x4), (zS I J tg))) else (r = (some (.int x5), (zS I J tg))))) else (r = (some (.int (-1)), (zS I J tg))))) else (∃ (I1 : Nat → Nat → Int32) (J2 : Nat → Nat → Int64) (tg3 : Option Nat), Runs (GW L xs) d 203 (0, [.ref 93, .int x6, .int x2, vU], [], (zS I J tg)) (none, (zS I1 J2 tg3)) ∧ Runs (GW L xs) (d + 1) 294 (69, [.ref 93, .int x1, .int x2, .int x3, .int x4, .int x5, .int x6, .int 0, .int 0, vU, vU], [], (zS I1 J2 tg3)) r)))) : Runs (GW L xs) (d + 1) 294 (45, [.ref 93, .int x1, .int x2, .int x3, .int x4, .int x5, .int x6, vU, vU, vU, vU], [], (zS I J tg)) r := by
  refine Runs.sN 5 (c' := (53, [.ref 93, .int x1, .int x2, .int x3, .int x4, .int x5, .int x6, vU, vU, vU, vU], [.int (I 94 1), .int x6], (zS I J tg))) rfl ?_
  by_cases c4 : (I 94 1) ≤ x6
  · rw [if_pos c4] at h
    refine Runs.brT (P := (I 94 1) ≤ x6) (a := 200) (b := 56) (L := [.ref 93, .int x1, .int x2, .int x3, .int x4, .int x5, .int x6, vU, vU, vU, vU]) (S := []) (z := (zS I J tg)) rfl c4 ?_
    refine Runs.sN 1 (c' := (202, [.ref 93, .int x1, .int x2, .int x3, .int x4, .int x5, .int x6, vU, vU, vU, vU], [.int x4], (zS I J tg))) rfl ?_
    by_cases c5 : 0 ≤ x4
    · rw [if_pos c5] at h
      refine Runs.brT (P := 0 ≤ x4) (a := 209) (b := 205) (L := [.ref 93, .int x1, .int x2, .int x3, .int x4, .int x5, .int x6, vU, vU, vU, vU]) (S := []) (z := (zS I J tg)) rfl c5 ?_
      refine Runs.sN 1 (c' := (210, [.ref 93, .int x1, .int x2, .int x3, .int x4, .int x5, .int x6, vU, vU, vU, vU], [.int x3], (zS I J tg))) rfl ?_
      by_cases c6 : x3 = 0
      · rw [if_pos c6] at h
        refine Runs.brT (P := x3 = 0) (a := 213) (b := 218) (L := [.ref 93, .int x1, .int x2, .int x3, .int x4, .int x5, .int x6, vU, vU, vU, vU]) (S := []) (z := (zS I J tg)) rfl c6 ?_
        refine Runs.sN 2 (c' := (220, [.ref 93, .int x1, .int x2, .int x3, .int x4, .int x5, .int x6, vU, vU, vU, vU], [.int x4], (zS I J tg))) rfl ?_
        subst h
        exact Runs.rt rfl
      · rw [if_neg c6] at h
        refine Runs.brF (P := x3 = 0) (a := 213) (b := 218) (L := [.ref 93, .int x1, .int x2, .int x3, .int x4, .int x5, .int x6, vU, vU, vU, vU]) (S := []) (z := (zS I J tg)) rfl c6 ?_
        refine Runs.sN 1 (c' := (220, [.ref 93, .int x1, .int x2, .int x3, .int x4, .int x5, .int x6, vU, vU, vU, vU], [.int x5], (zS I J tg))) rfl ?_
        subst h
        exact Runs.rt rfl
    · rw [if_neg c5] at h
      refine Runs.brF (P := 0 ≤ x4) (a := 209) (b := 205) (L := [.ref 93, .int x1, .int x2, .int x3, .int x4, .int x5, .int x6, vU, vU, vU, vU]) (S := []) (z := (zS I J tg)) rfl c5 ?_
      refine Runs.sN 2 (c' := (220, [.ref 93, .int x1, .int x2, .int x3, .int x4, .int x5, .int x6, vU, vU, vU, vU], [.int (-1)], (zS I J tg))) rfl ?_
      subst h
      exact Runs.rt rfl
  · rw [if_neg c4] at h
    refine Runs.brF (P := (I 94 1) ≤ x6) (a := 200) (b := 56) (L := [.ref 93, .int x1, .int x2, .int x3, .int x4, .int x5, .int x6, vU, vU, vU, vU]) (S := []) (z := (zS I J tg)) rfl c4 ?_
    refine Runs.sN 3 (c' := (60, [.ref 93, .int x1, .int x2, .int x3, .int x4, .int x5, .int x6, vU, vU, vU, vU], [.int x2, .int x6, .ref 93], (zS I J tg))) rfl ?_
    obtain ⟨I1, J2, tg3, c7, h⟩ := h
    refine Runs.cl (cm := 203) (as := [.ref 93, .int x6, .int x2]) (rest := []) (r1 := (none, (zS I1 J2 tg3))) rfl (Nat.le_of_ble_eq_true rfl) c7 ?_
    refine Runs.as (c' := (63, [.ref 93, .int x1, .int x2, .int x3, .int x4, .int x5, .int x6, vU, vU, vU, vU], [], (zS I1 J2 tg3))) rfl ?_
    refine Runs.sN 4 (c' := (69, [.ref 93, .int x1, .int x2, .int x3, .int x4, .int x5, .int x6, .int 0, .int 0, vU, vU], [], (zS I1 J2 tg3))) rfl ?_
    exact h
theorem sg_294_69 {L d : Nat} {xs : Nat → Int32} (I : Nat → Nat → Int32) (J : Nat → Nat → Int64) (tg : Option Nat) (x1 : Int32) (x2 : Int32) (x3 : Int32) (x4 : Int32) (x5 : Int32) (x6 : Int32) (x7 : Int32) (x8 : Int32) {r : Option Value × SS} (h : ((if 13 ≤ x8 then (Runs (GW L xs) (d + 1) 294 (93, [.ref 93, .int x1, .int x2, .int x3, .int x4, .int x5, .int x6, .int x7, .int 0, vU, vU], [], (zS I J tg)) r) else (¬ (x8 < 0 ∨ 13 ≤ (x8).toNatClampNeg) ∧ (0 = 0 ∨ 0 = 1) ∧ Runs (GW L xs) (d + 1) 294 (69, [.ref 93, .int x1, .int x2, .int x3, .int x4, .int x5, .int x6, .int x7, .int (x8 + 1), vU, vU], [], (zS (up2 I 113 ((x8).toNatClampNeg) 0) J tg)) r)))) : Runs (GW L xs) (d + 1) 294 (69, [.ref 93, .int x1, .int x2, .int x3, .int x4, .int x5, .int x6, .int x7, .int x8, vU, vU], [], (zS I J tg)) r := by
  refine Runs.sN 2 (c' := (73, [.ref 93, .int x1, .int x2, .int x3, .int x4, .int x5, .int x6, .int x7, .int x8, vU, vU], [.int 13, .int x8], (zS I J tg))) rfl ?_
  by_cases c1 : 13 ≤ x8
  · rw [if_pos c1] at h
    refine Runs.brT (P := 13 ≤ x8) (a := 90) (b := 76) (L := [.ref 93, .int x1, .int x2, .int x3, .int x4, .int x5, .int x6, .int x7, .int x8, vU, vU]) (S := []) (z := (zS I J tg)) rfl c1 ?_
    refine Runs.sN 2 (c' := (93, [.ref 93, .int x1, .int x2, .int x3, .int x4, .int x5, .int x6, .int x7, .int 0, vU, vU], [], (zS I J tg))) rfl ?_
    exact h
  · rw [if_neg c1] at h
    refine Runs.brF (P := 13 ≤ x8) (a := 90) (b := 76) (L := [.ref 93, .int x1, .int x2, .int x3, .int x4, .int x5, .int x6, .int x7, .int x8, vU, vU]) (S := []) (z := (zS I J tg)) rfl c1 ?_
    refine Runs.sN 4 (c' := (83, [.ref 93, .int x1, .int x2, .int x3, .int x4, .int x5, .int x6, .int x7, .int x8, vU, vU], [.int 0, .int x8, .ref 113], (zS I J tg))) rfl ?_
    obtain ⟨c2, h⟩ := h
    obtain ⟨c3, h⟩ := h
    refine Runs.to (c' := (84, [.ref 93, .int x1, .int x2, .int x3, .int x4, .int x5, .int x6, .int x7, .int x8, vU, vU], [], (zS (up2 I 113 ((x8).toNatClampNeg) 0) J tg))) (Runs.zst rfl (show (113 : Nat) < 114 by decide) rfl c2 c3) ?_
    refine Runs.sN 2 (c' := (69, [.ref 93, .int x1, .int x2, .int x3, .int x4, .int x5, .int x6, .int x7, .int (x8 + 1), vU, vU], [], (zS (up2 I 113 ((x8).toNatClampNeg) 0) J tg))) rfl ?_
    exact h
theorem sg_294_93 {L d : Nat} {xs : Nat → Int32} (I : Nat → Nat → Int32) (J : Nat → Nat → Int64) (tg : Option Nat) (x1 : Int32) (x2 : Int32) (x3 : Int32) (x4 : Int32) (x5 : Int32) (x6 : Int32) (x7 : Int32) (x8 : Int32) {r : Option Value × SS} (h : (∃ (v1 : Int32) (I2 : Nat → Nat → Int32) (J3 : Nat → Nat → Int64) (tg4 : Option Nat), Runs (GW L xs) d 199 (0, [.ref 93], [], (zS I J tg)) ((some (.int v1)), (zS I2 J3 tg4)) ∧ (if v1 < x8 then ((if x5 < x7 then (Runs (GW L xs) (d + 1) 294 (45, [.ref 93, .int x1, .int x2, .int x3, .int x6, .int x7, .int (x6 + 1), vU, vU, vU, vU], [], (zS I2 J3 tg4)) r) else (Runs (GW L xs) (d + 1) 294 (45, [.ref 93, .int x1, .int x2, .int x3, .int x4, .int x5, .int (x6 + 1), vU, vU, vU, vU], [], (zS I2 J3 tg4)) r))) else (¬ (x8 < 0 ∨ 4096 ≤ (x8).toNatClampNeg) ∧ (if (I2 112 ((x8).toNatClampNeg)) = 0 then (Runs (GW L xs) (d + 1) 294 (93, [.ref 93, .int x1, .int x2, .int x3, .int x4, .int x5, .int x6, .int x7, .int (x8 + 1), vU, vU], [], (zS I2 J3 tg4)) r) else (∃ (v5 : Int32) (I6 : Nat → Nat → Int32) (J7 : Nat → Nat → Int64) (tg8 : Option Nat), Runs (GW L xs) d 204 (0, [.ref 93, .int x8, .int 0, .int 0, vU, vU, vU, vU, vU], [], (zS I2 J3 tg4)) ((some (.int v5)), (zS I6 J7 tg8)) ∧ (if 0 ≤ v5 then (¬ ((v5 - 12) < 0 ∨ 13 ≤ (v5 - 12).toNatClampNeg) ∧ (if (I6 113 ((v5 - 12).toNatClampNeg)) = 0 then (¬ ((v5 - 12) < 0 ∨ 13 ≤ (v5 - 12).toNatClampNeg) ∧ (1 = 0 ∨ 1 = 1) ∧ Runs (GW L xs) (d + 1) 294 (93, [.ref 93, .int x1, .int x2, .int x3, .int x4, .int x5, .int x6, .int (x7 + 1), .int (x8 + 1), vU, vU], [], (zS (up2 I6 113 ((v5 - 12).toNatClampNeg) 1) J7 tg8)) r) else (¬ ((v5 - 12) < 0 ∨ 13 ≤ (v5 - 12).toNatClampNeg) ∧ (1 = 0 ∨ 1 = 1) ∧ Runs (GW L xs) (d + 1) 294 (93, [.ref 93, .int x1, .int x2, .int x3, .int x4, .int x5, .int x6, .int (x7 + 0), .int (x8 + 1), vU, vU], [], (zS (up2 I6 113 ((v5 - 12).toNatClampNeg) 1) J7 tg8)) r))) else ((if (I6 113 12) = 0 then (¬ ((12 : Int32) < 0 ∨ 13 ≤ ((12 : Int32)).toNatClampNeg) ∧ (1 = 0 ∨ 1 = 1) ∧ Runs (GW L xs) (d + 1) 294 (93, [.ref 93, .int x1, .int x2, .int x3, .int x4, .int x5, .int x6, .int (x7 + 1), .int (x8 + 1), vU, vU], [], (zS (up2 I6 113 (((12 : Int32)).toNatClampNeg) 1) J7 tg8)) r) else (¬ ((12 : Int32) < 0 ∨ 13 ≤ ((12 : Int32)).toNatClampNeg) ∧ (1 = 0 ∨ 1 = 1) ∧ Runs (GW L xs) (d + 1) 294 (93, [.ref 93, .int x1, .int x2, .int x3, .int x4, .int x5, .int x6, .int (x7 + 0), .int (x8 + 1), vU, vU], [], (zS (up2 I6 113 (((12 : Int32)).toNatClampNeg) 1) J7 tg8)) r)))))))))) : Runs (GW L xs) (d + 1) 294 (93, [.ref 93, .int x1, .int x2, .int x3, .int x4, .int x5, .int x6, .int x7, .int x8, vU, vU], [], (zS I J tg)) r := by
  refine Runs.sN 2 (c' := (96, [.ref 93, .int x1, .int x2, .int x3, .int x4, .int x5, .int x6, .int x7, .int x8, vU, vU], [.ref 93, .int x8], (zS I J tg))) rfl ?_
  obtain ⟨v1, I2, J3, tg4, c9, h⟩ := h
  refine Runs.cl (cm := 199) (as := [.ref 93]) (rest := [.int x8]) (r1 := ((some (.int v1)), (zS I2 J3 tg4))) rfl (Nat.le_of_ble_eq_true rfl) c9 ?_
  refine Runs.as (c' := (99, [.ref 93, .int x1, .int x2, .int x3, .int x4, .int x5, .int x6, .int x7, .int x8, vU, vU], [.int v1, .int x8], (zS I2 J3 tg4))) rfl ?_
  by_cases c10 : v1 < x8
  · rw [if_pos c10] at h
    refine Runs.brT (P := v1 < x8) (a := 176) (b := 102) (L := [.ref 93, .int x1, .int x2, .int x3, .int x4, .int x5, .int x6, .int x7, .int x8, vU, vU]) (S := []) (z := (zS I2 J3 tg4)) rfl c10 ?_
    refine Runs.sN 2 (c' := (180, [.ref 93, .int x1, .int x2, .int x3, .int x4, .int x5, .int x6, .int x7, .int x8, vU, vU], [.int x5, .int x7], (zS I2 J3 tg4))) rfl ?_
    by_cases c11 : x5 < x7
    · rw [if_pos c11] at h
      refine Runs.brT (P := x5 < x7) (a := 186) (b := 183) (L := [.ref 93, .int x1, .int x2, .int x3, .int x4, .int x5, .int x6, .int x7, .int x8, vU, vU]) (S := []) (z := (zS I2 J3 tg4)) rfl c11 ?_
      refine Runs.sN 6 (c' := (45, [.ref 93, .int x1, .int x2, .int x3, .int x6, .int x7, .int (x6 + 1), .int x7, .int x8, vU, vU], [], (zS I2 J3 tg4))) rfl ?_
      exact Runs.weak (L := [.ref 93, .int x1, .int x2, .int x3, .int x6, .int x7, .int (x6 + 1), vU, vU, vU, vU]) (Lle.k (Lle.k (Lle.k (Lle.k (Lle.k (Lle.k (Lle.k (Lle.u (Lle.u (Lle.k (Lle.k Lle.n))))))))))) h
    · rw [if_neg c11] at h
      refine Runs.brF (P := x5 < x7) (a := 186) (b := 183) (L := [.ref 93, .int x1, .int x2, .int x3, .int x4, .int x5, .int x6, .int x7, .int x8, vU, vU]) (S := []) (z := (zS I2 J3 tg4)) rfl c11 ?_
      refine Runs.sN 3 (c' := (45, [.ref 93, .int x1, .int x2, .int x3, .int x4, .int x5, .int (x6 + 1), .int x7, .int x8, vU, vU], [], (zS I2 J3 tg4))) rfl ?_
      exact Runs.weak (L := [.ref 93, .int x1, .int x2, .int x3, .int x4, .int x5, .int (x6 + 1), vU, vU, vU, vU]) (Lle.k (Lle.k (Lle.k (Lle.k (Lle.k (Lle.k (Lle.k (Lle.u (Lle.u (Lle.k (Lle.k Lle.n))))))))))) h
  · rw [if_neg c10] at h
    refine Runs.brF (P := v1 < x8) (a := 176) (b := 102) (L := [.ref 93, .int x1, .int x2, .int x3, .int x4, .int x5, .int x6, .int x7, .int x8, vU, vU]) (S := []) (z := (zS I2 J3 tg4)) rfl c10 ?_
    refine Runs.sN 3 (c' := (108, [.ref 93, .int x1, .int x2, .int x3, .int x4, .int x5, .int x6, .int x7, .int x8, vU, vU], [.int x8, .ref 112], (zS I2 J3 tg4))) rfl ?_
    obtain ⟨c12, h⟩ := h
    refine Runs.to (c' := (109, [.ref 93, .int x1, .int x2, .int x3, .int x4, .int x5, .int x6, .int x7, .int x8, vU, vU], [.int (I2 112 ((x8).toNatClampNeg))], (zS I2 J3 tg4))) (Runs.zld rfl (show (112 : Nat) < 114 by decide) rfl c12) ?_
    by_cases c13 : (I2 112 ((x8).toNatClampNeg)) = 0
    · rw [if_pos c13] at h
      refine Runs.brT (P := (I2 112 ((x8).toNatClampNeg)) = 0) (a := 112) (b := 115) (L := [.ref 93, .int x1, .int x2, .int x3, .int x4, .int x5, .int x6, .int x7, .int x8, vU, vU]) (S := []) (z := (zS I2 J3 tg4)) rfl c13 ?_
      refine Runs.sN 3 (c' := (93, [.ref 93, .int x1, .int x2, .int x3, .int x4, .int x5, .int x6, .int x7, .int (x8 + 1), vU, vU], [], (zS I2 J3 tg4))) rfl ?_
      exact h
    · rw [if_neg c13] at h
      refine Runs.brF (P := (I2 112 ((x8).toNatClampNeg)) = 0) (a := 112) (b := 115) (L := [.ref 93, .int x1, .int x2, .int x3, .int x4, .int x5, .int x6, .int x7, .int x8, vU, vU]) (S := []) (z := (zS I2 J3 tg4)) rfl c13 ?_
      refine Runs.sN 4 (c' := (120, [.ref 93, .int x1, .int x2, .int x3, .int x4, .int x5, .int x6, .int x7, .int x8, vU, vU], [.int 0, .int 0, .int x8, .ref 93], (zS I2 J3 tg4))) rfl ?_
      obtain ⟨v5, I6, J7, tg8, c14, h⟩ := h
      refine Runs.cl (cm := 204) (as := [.ref 93, .int x8, .int 0, .int 0]) (rest := []) (r1 := ((some (.int v5)), (zS I6 J7 tg8))) rfl (Nat.le_of_ble_eq_true rfl) c14 ?_
      refine Runs.as (c' := (123, [.ref 93, .int x1, .int x2, .int x3, .int x4, .int x5, .int x6, .int x7, .int x8, vU, vU], [.int v5], (zS I6 J7 tg8))) rfl ?_
      refine Runs.sN 2 (c' := (127, [.ref 93, .int x1, .int x2, .int x3, .int x4, .int x5, .int x6, .int x7, .int x8, .int v5, vU], [.int v5], (zS I6 J7 tg8))) rfl ?_
      by_cases c15 : 0 ≤ v5
      · rw [if_pos c15] at h
        refine Runs.brT (P := 0 ≤ v5) (a := 135) (b := 130) (L := [.ref 93, .int x1, .int x2, .int x3, .int x4, .int x5, .int x6, .int x7, .int x8, .int v5, vU]) (S := []) (z := (zS I6 J7 tg8)) rfl c15 ?_
        refine Runs.sN 8 (c' := (150, [.ref 93, .int x1, .int x2, .int x3, .int x4, .int x5, .int x6, .int x7, .int x8, .int v5, .int (v5 - 12)], [.int (v5 - 12), .ref 113, .int x7], (zS I6 J7 tg8))) rfl ?_
        obtain ⟨c16, h⟩ := h
        refine Runs.to (c' := (151, [.ref 93, .int x1, .int x2, .int x3, .int x4, .int x5, .int x6, .int x7, .int x8, .int v5, .int (v5 - 12)], [.int (I6 113 ((v5 - 12).toNatClampNeg)), .int x7], (zS I6 J7 tg8))) (Runs.zld rfl (show (113 : Nat) < 114 by decide) rfl c16) ?_
        by_cases c17 : (I6 113 ((v5 - 12).toNatClampNeg)) = 0
        · rw [if_pos c17] at h
          refine Runs.brT (P := (I6 113 ((v5 - 12).toNatClampNeg)) = 0) (a := 158) (b := 154) (L := [.ref 93, .int x1, .int x2, .int x3, .int x4, .int x5, .int x6, .int x7, .int x8, .int v5, .int (v5 - 12)]) (S := [.int x7]) (z := (zS I6 J7 tg8)) rfl c17 ?_
          refine Runs.sN 7 (c' := (169, [.ref 93, .int x1, .int x2, .int x3, .int x4, .int x5, .int x6, .int (x7 + 1), .int x8, .int v5, .int (v5 - 12)], [.int 1, .int (v5 - 12), .ref 113], (zS I6 J7 tg8))) rfl ?_
          obtain ⟨c18, h⟩ := h
          obtain ⟨c19, h⟩ := h
          refine Runs.to (c' := (170, [.ref 93, .int x1, .int x2, .int x3, .int x4, .int x5, .int x6, .int (x7 + 1), .int x8, .int v5, .int (v5 - 12)], [], (zS (up2 I6 113 ((v5 - 12).toNatClampNeg) 1) J7 tg8))) (Runs.zst rfl (show (113 : Nat) < 114 by decide) rfl c18 c19) ?_
          refine Runs.sN 2 (c' := (93, [.ref 93, .int x1, .int x2, .int x3, .int x4, .int x5, .int x6, .int (x7 + 1), .int (x8 + 1), .int v5, .int (v5 - 12)], [], (zS (up2 I6 113 ((v5 - 12).toNatClampNeg) 1) J7 tg8))) rfl ?_
          exact Runs.weak (L := [.ref 93, .int x1, .int x2, .int x3, .int x4, .int x5, .int x6, .int (x7 + 1), .int (x8 + 1), vU, vU]) (Lle.k (Lle.k (Lle.k (Lle.k (Lle.k (Lle.k (Lle.k (Lle.k (Lle.k (Lle.u (Lle.u Lle.n))))))))))) h
        · rw [if_neg c17] at h
          refine Runs.brF (P := (I6 113 ((v5 - 12).toNatClampNeg)) = 0) (a := 158) (b := 154) (L := [.ref 93, .int x1, .int x2, .int x3, .int x4, .int x5, .int x6, .int x7, .int x8, .int v5, .int (v5 - 12)]) (S := [.int x7]) (z := (zS I6 J7 tg8)) rfl c17 ?_
          refine Runs.sN 8 (c' := (169, [.ref 93, .int x1, .int x2, .int x3, .int x4, .int x5, .int x6, .int (x7 + 0), .int x8, .int v5, .int (v5 - 12)], [.int 1, .int (v5 - 12), .ref 113], (zS I6 J7 tg8))) rfl ?_
          obtain ⟨c20, h⟩ := h
          obtain ⟨c21, h⟩ := h
          refine Runs.to (c' := (170, [.ref 93, .int x1, .int x2, .int x3, .int x4, .int x5, .int x6, .int (x7 + 0), .int x8, .int v5, .int (v5 - 12)], [], (zS (up2 I6 113 ((v5 - 12).toNatClampNeg) 1) J7 tg8))) (Runs.zst rfl (show (113 : Nat) < 114 by decide) rfl c20 c21) ?_
          refine Runs.sN 2 (c' := (93, [.ref 93, .int x1, .int x2, .int x3, .int x4, .int x5, .int x6, .int (x7 + 0), .int (x8 + 1), .int v5, .int (v5 - 12)], [], (zS (up2 I6 113 ((v5 - 12).toNatClampNeg) 1) J7 tg8))) rfl ?_
          exact Runs.weak (L := [.ref 93, .int x1, .int x2, .int x3, .int x4, .int x5, .int x6, .int (x7 + 0), .int (x8 + 1), vU, vU]) (Lle.k (Lle.k (Lle.k (Lle.k (Lle.k (Lle.k (Lle.k (Lle.k (Lle.k (Lle.u (Lle.u Lle.n))))))))))) h
      · rw [if_neg c15] at h
        refine Runs.brF (P := 0 ≤ v5) (a := 135) (b := 130) (L := [.ref 93, .int x1, .int x2, .int x3, .int x4, .int x5, .int x6, .int x7, .int x8, .int v5, vU]) (S := []) (z := (zS I6 J7 tg8)) rfl c15 ?_
        refine Runs.sN 8 (c' := (151, [.ref 93, .int x1, .int x2, .int x3, .int x4, .int x5, .int x6, .int x7, .int x8, .int v5, .int 12], [.int (I6 113 12), .int x7], (zS I6 J7 tg8))) rfl ?_
        by_cases c22 : (I6 113 12) = 0
        · rw [if_pos c22] at h
          refine Runs.brT (P := (I6 113 12) = 0) (a := 158) (b := 154) (L := [.ref 93, .int x1, .int x2, .int x3, .int x4, .int x5, .int x6, .int x7, .int x8, .int v5, .int 12]) (S := [.int x7]) (z := (zS I6 J7 tg8)) rfl c22 ?_
          refine Runs.sN 7 (c' := (169, [.ref 93, .int x1, .int x2, .int x3, .int x4, .int x5, .int x6, .int (x7 + 1), .int x8, .int v5, .int 12], [.int 1, .int 12, .ref 113], (zS I6 J7 tg8))) rfl ?_
          obtain ⟨c23, h⟩ := h
          obtain ⟨c24, h⟩ := h
          refine Runs.to (c' := (170, [.ref 93, .int x1, .int x2, .int x3, .int x4, .int x5, .int x6, .int (x7 + 1), .int x8, .int v5, .int 12], [], (zS (up2 I6 113 (((12 : Int32)).toNatClampNeg) 1) J7 tg8))) (Runs.zst rfl (show (113 : Nat) < 114 by decide) rfl c23 c24) ?_
          refine Runs.sN 2 (c' := (93, [.ref 93, .int x1, .int x2, .int x3, .int x4, .int x5, .int x6, .int (x7 + 1), .int (x8 + 1), .int v5, .int 12], [], (zS (up2 I6 113 (((12 : Int32)).toNatClampNeg) 1) J7 tg8))) rfl ?_
          exact Runs.weak (L := [.ref 93, .int x1, .int x2, .int x3, .int x4, .int x5, .int x6, .int (x7 + 1), .int (x8 + 1), vU, vU]) (Lle.k (Lle.k (Lle.k (Lle.k (Lle.k (Lle.k (Lle.k (Lle.k (Lle.k (Lle.u (Lle.u Lle.n))))))))))) h
        · rw [if_neg c22] at h
          refine Runs.brF (P := (I6 113 12) = 0) (a := 158) (b := 154) (L := [.ref 93, .int x1, .int x2, .int x3, .int x4, .int x5, .int x6, .int x7, .int x8, .int v5, .int 12]) (S := [.int x7]) (z := (zS I6 J7 tg8)) rfl c22 ?_
          refine Runs.sN 8 (c' := (169, [.ref 93, .int x1, .int x2, .int x3, .int x4, .int x5, .int x6, .int (x7 + 0), .int x8, .int v5, .int 12], [.int 1, .int 12, .ref 113], (zS I6 J7 tg8))) rfl ?_
          obtain ⟨c25, h⟩ := h
          obtain ⟨c26, h⟩ := h
          refine Runs.to (c' := (170, [.ref 93, .int x1, .int x2, .int x3, .int x4, .int x5, .int x6, .int (x7 + 0), .int x8, .int v5, .int 12], [], (zS (up2 I6 113 (((12 : Int32)).toNatClampNeg) 1) J7 tg8))) (Runs.zst rfl (show (113 : Nat) < 114 by decide) rfl c25 c26) ?_
          refine Runs.sN 2 (c' := (93, [.ref 93, .int x1, .int x2, .int x3, .int x4, .int x5, .int x6, .int (x7 + 0), .int (x8 + 1), .int v5, .int 12], [], (zS (up2 I6 113 (((12 : Int32)).toNatClampNeg) 1) J7 tg8))) rfl ?_
          exact Runs.weak (L := [.ref 93, .int x1, .int x2, .int x3, .int x4, .int x5, .int x6, .int (x7 + 0), .int (x8 + 1), vU, vU]) (Lle.k (Lle.k (Lle.k (Lle.k (Lle.k (Lle.k (Lle.k (Lle.k (Lle.k (Lle.u (Lle.u Lle.n))))))))))) h
-- X12_isMended 
theorem sg_295 {L d : Nat} {xs : Nat → Int32} (I : Nat → Nat → Int32) (J : Nat → Nat → Int64) (tg : Option Nat) (a1 : Int32) (a2 : Int32) (a3 : Int32) (a4 : Int32) (a5 : Int32) {r : Option Value × SS} (h : ((if a4 < 0 then (∃ (I43 : Nat → Nat → Int32) (J44 : Nat → Nat → Int64) (tg45 : Option Nat), Runs (GW L xs) d 257 (0, [.ref 93, .int a1, vU], [], (zS I J tg)) (none, (zS I43 J44 tg45)) ∧ Runs (GW L xs) (d + 1) 295 (25, [.ref 93, .int a1, .int a2, .int a3, .int a4, .int a5, .int 0], [], (zS I43 J44 tg45)) r) else (∃ (v46 : Int32) (I47 : Nat → Nat → Int32) (J48 : Nat → Nat → Int64) (tg49 : Option Nat), Runs (GW L xs) d 188 (0, [.ref 93, .int a1, .int a4, vU], [], (zS I J tg)) ((some (.int v46)), (zS I47 J48 tg49)) ∧ (if v46 = 0 then (∃ (I50 : Nat → Nat → Int32) (J51 : Nat → Nat → Int64) (tg52 : Option Nat), Runs (GW L xs) d 257 (0, [.ref 93, .int a1, vU], [], (zS I47 J48 tg49)) (none, (zS I50 J51 tg52)) ∧ Runs (GW L xs) (d + 1) 295 (25, [.ref 93, .int a1, .int a2, .int a3, .int a4, .int a5, .int 0], [], (zS I50 J51 tg52)) r) else (r = (some (.int 0), (zS I47 J48 tg49)))))))) : Runs (GW L xs) (d + 1) 295 (0, [.ref 93, .int a1, .int a2, .int a3, .int a4, .int a5, vU], [], (zS I J tg)) r := by
  refine Runs.sN 1 (c' := (2, [.ref 93, .int a1, .int a2, .int a3, .int a4, .int a5, vU], [.int a4], (zS I J tg))) rfl ?_
  by_cases c53 : a4 < 0
  · rw [if_pos c53] at h
    refine Runs.brT (P := a4 < 0) (a := 17) (b := 5) (L := [.ref 93, .int a1, .int a2, .int a3, .int a4, .int a5, vU]) (S := []) (z := (zS I J tg)) rfl c53 ?_
    refine Runs.sN 2 (c' := (19, [.ref 93, .int a1, .int a2, .int a3, .int a4, .int a5, vU], [.int a1, .ref 93], (zS I J tg))) rfl ?_
    obtain ⟨I43, J44, tg45, c54, h⟩ := h
    refine Runs.cl (cm := 257) (as := [.ref 93, .int a1]) (rest := []) (r1 := (none, (zS I43 J44 tg45))) rfl (Nat.le_of_ble_eq_true rfl) c54 ?_
    refine Runs.as (c' := (22, [.ref 93, .int a1, .int a2, .int a3, .int a4, .int a5, vU], [], (zS I43 J44 tg45))) rfl ?_
    refine Runs.sN 2 (c' := (25, [.ref 93, .int a1, .int a2, .int a3, .int a4, .int a5, .int 0], [], (zS I43 J44 tg45))) rfl ?_
    exact h
  · rw [if_neg c53] at h
    refine Runs.brF (P := a4 < 0) (a := 17) (b := 5) (L := [.ref 93, .int a1, .int a2, .int a3, .int a4, .int a5, vU]) (S := []) (z := (zS I J tg)) rfl c53 ?_
    refine Runs.sN 3 (c' := (9, [.ref 93, .int a1, .int a2, .int a3, .int a4, .int a5, vU], [.int a4, .int a1, .ref 93], (zS I J tg))) rfl ?_
    obtain ⟨v46, I47, J48, tg49, c55, h⟩ := h
    refine Runs.cl (cm := 188) (as := [.ref 93, .int a1, .int a4]) (rest := []) (r1 := ((some (.int v46)), (zS I47 J48 tg49))) rfl (Nat.le_of_ble_eq_true rfl) c55 ?_
    refine Runs.as (c' := (12, [.ref 93, .int a1, .int a2, .int a3, .int a4, .int a5, vU], [.int v46], (zS I47 J48 tg49))) rfl ?_
    by_cases c56 : v46 = 0
    · rw [if_pos c56] at h
      refine Runs.brT (P := v46 = 0) (a := 17) (b := 15) (L := [.ref 93, .int a1, .int a2, .int a3, .int a4, .int a5, vU]) (S := []) (z := (zS I47 J48 tg49)) rfl c56 ?_
      refine Runs.sN 2 (c' := (19, [.ref 93, .int a1, .int a2, .int a3, .int a4, .int a5, vU], [.int a1, .ref 93], (zS I47 J48 tg49))) rfl ?_
      obtain ⟨I50, J51, tg52, c57, h⟩ := h
      refine Runs.cl (cm := 257) (as := [.ref 93, .int a1]) (rest := []) (r1 := (none, (zS I50 J51 tg52))) rfl (Nat.le_of_ble_eq_true rfl) c57 ?_
      refine Runs.as (c' := (22, [.ref 93, .int a1, .int a2, .int a3, .int a4, .int a5, vU], [], (zS I50 J51 tg52))) rfl ?_
      refine Runs.sN 2 (c' := (25, [.ref 93, .int a1, .int a2, .int a3, .int a4, .int a5, .int 0], [], (zS I50 J51 tg52))) rfl ?_
      exact h
    · rw [if_neg c56] at h
      refine Runs.brF (P := v46 = 0) (a := 17) (b := 15) (L := [.ref 93, .int a1, .int a2, .int a3, .int a4, .int a5, vU]) (S := []) (z := (zS I47 J48 tg49)) rfl c56 ?_
      refine Runs.sN 1 (c' := (16, [.ref 93, .int a1, .int a2, .int a3, .int a4, .int a5, vU], [.int 0], (zS I47 J48 tg49))) rfl ?_
      subst h
      exact Runs.rt rfl
theorem sg_295_25 {L d : Nat} {xs : Nat → Int32} (I : Nat → Nat → Int32) (J : Nat → Nat → Int64) (tg : Option Nat) (x1 : Int32) (x2 : Int32) (x3 : Int32) (x4 : Int32) (x5 : Int32) (x6 : Int32) {r : Option Value × SS} (h : (∃ (v1 : Int32) (I2 : Nat → Nat → Int32) (J3 : Nat → Nat → Int64) (tg4 : Option Nat), Runs (GW L xs) d 184 (0, [.ref 93, .int x1, .int 0], [], (zS I J tg)) ((some (.int v1)), (zS I2 J3 tg4)) ∧ (if v1 ≤ x6 then (∃ (v5 : Int32) (I6 : Nat → Nat → Int32) (J7 : Nat → Nat → Int64) (tg8 : Option Nat), Runs (GW L xs) d 197 (0, [.ref 93, .int 24, .int x2, vU, vU, vU, vU, vU, vU, vU], [], (zS I2 J3 tg4)) ((some (.int v5)), (zS I6 J7 tg8)) ∧ (if v5 < x5 then (r = (some (.int 0), (zS (up2 I6 93 39 v5) J7 tg8))) else (∃ (v9 : Int32) (I10 : Nat → Nat → Int32) (J11 : Nat → Nat → Int64) (tg12 : Option Nat), Runs (GW L xs) d 243 (0, [.ref 93, .int 24], [], (zS (up2 I6 93 39 v5) J7 tg8)) ((some (.int v9)), (zS I10 J11 tg12)) ∧ (if v9 = 0 then (r = (some (.int 0), (zS I10 J11 tg12))) else (r = (some (.int 1), (zS I10 J11 tg12))))))) else ((if x6 = x3 then ((if x4 < 0 then (Runs (GW L xs) (d + 1) 295 (25, [.ref 93, .int x1, .int x2, .int x3, .int x4, .int x5, .int (x6 + 1)], [], (zS I2 J3 tg4)) r) else (∃ (I13 : Nat → Nat → Int32) (J14 : Nat → Nat → Int64) (tg15 : Option Nat), Runs (GW L xs) d 189 (0, [.ref 93, .int 24, .int x4, vU], [], (zS I2 J3 tg4)) (none, (zS I13 J14 tg15)) ∧ Runs (GW L xs) (d + 1) 295 (25, [.ref 93, .int x1, .int x2, .int x3, .int x4, .int x5, .int (x6 + 1)], [], (zS I13 J14 tg15)) r))) else (∃ (v16 : Int32) (I17 : Nat → Nat → Int32) (J18 : Nat → Nat → Int64) (tg19 : Option Nat), Runs (GW L xs) d 184 (0, [.ref 93, .int x1, .int (4 + x6)], [], (zS I2 J3 tg4)) ((some (.int v16)), (zS I17 J18 tg19)) ∧ ∃ (I20 : Nat → Nat → Int32) (J21 : Nat → Nat → Int64) (tg22 : Option Nat), Runs (GW L xs) d 189 (0, [.ref 93, .int 24, .int v16, vU], [], (zS I17 J18 tg19)) (none, (zS I20 J21 tg22)) ∧ Runs (GW L xs) (d + 1) 295 (25, [.ref 93, .int x1, .int x2, .int x3, .int x4, .int x5, .int (x6 + 1)], [], (zS I20 J21 tg22)) r)))))) : Runs (GW L xs) (d + 1) 295 (25, [.ref 93, .int x1, .int x2, .int x3, .int x4, .int x5, .int x6], [], (zS I J tg)) r := by
  refine Runs.sN 4 (c' := (30, [.ref 93, .int x1, .int x2, .int x3, .int x4, .int x5, .int x6], [.int 0, .int x1, .ref 93, .int x6], (zS I J tg))) rfl ?_
  obtain ⟨v1, I2, J3, tg4, c23, h⟩ := h
  refine Runs.cl (cm := 184) (as := [.ref 93, .int x1, .int 0]) (rest := [.int x6]) (r1 := ((some (.int v1)), (zS I2 J3 tg4))) rfl (Nat.le_of_ble_eq_true rfl) c23 ?_
  refine Runs.as (c' := (33, [.ref 93, .int x1, .int x2, .int x3, .int x4, .int x5, .int x6], [.int v1, .int x6], (zS I2 J3 tg4))) rfl ?_
  by_cases c24 : v1 ≤ x6
  · rw [if_pos c24] at h
    refine Runs.brT (P := v1 ≤ x6) (a := 79) (b := 36) (L := [.ref 93, .int x1, .int x2, .int x3, .int x4, .int x5, .int x6]) (S := []) (z := (zS I2 J3 tg4)) rfl c24 ?_
    refine Runs.sN 4 (c' := (84, [.ref 93, .int x1, .int x2, .int x3, .int x4, .int x5, .int x6], [.int x2, .int 24, .ref 93, .ref 93], (zS I2 J3 tg4))) rfl ?_
    obtain ⟨v5, I6, J7, tg8, c25, h⟩ := h
    refine Runs.cl (cm := 197) (as := [.ref 93, .int 24, .int x2]) (rest := [.ref 93]) (r1 := ((some (.int v5)), (zS I6 J7 tg8))) rfl (Nat.le_of_ble_eq_true rfl) c25 ?_
    refine Runs.as (c' := (87, [.ref 93, .int x1, .int x2, .int x3, .int x4, .int x5, .int x6], [.int v5, .ref 93], (zS I6 J7 tg8))) rfl ?_
    refine Runs.sN 4 (c' := (96, [.ref 93, .int x1, .int x2, .int x3, .int x4, .int x5, .int x6], [.int x5, .int v5], (zS (up2 I6 93 39 v5) J7 tg8))) rfl ?_
    by_cases c26 : v5 < x5
    · rw [if_pos c26] at h
      refine Runs.brT (P := v5 < x5) (a := 112) (b := 99) (L := [.ref 93, .int x1, .int x2, .int x3, .int x4, .int x5, .int x6]) (S := []) (z := (zS (up2 I6 93 39 v5) J7 tg8)) rfl c26 ?_
      refine Runs.sN 1 (c' := (113, [.ref 93, .int x1, .int x2, .int x3, .int x4, .int x5, .int x6], [.int 0], (zS (up2 I6 93 39 v5) J7 tg8))) rfl ?_
      subst h
      exact Runs.rt rfl
    · rw [if_neg c26] at h
      refine Runs.brF (P := v5 < x5) (a := 112) (b := 99) (L := [.ref 93, .int x1, .int x2, .int x3, .int x4, .int x5, .int x6]) (S := []) (z := (zS (up2 I6 93 39 v5) J7 tg8)) rfl c26 ?_
      refine Runs.sN 2 (c' := (102, [.ref 93, .int x1, .int x2, .int x3, .int x4, .int x5, .int x6], [.int 24, .ref 93], (zS (up2 I6 93 39 v5) J7 tg8))) rfl ?_
      obtain ⟨v9, I10, J11, tg12, c27, h⟩ := h
      refine Runs.cl (cm := 243) (as := [.ref 93, .int 24]) (rest := []) (r1 := ((some (.int v9)), (zS I10 J11 tg12))) rfl (Nat.le_of_ble_eq_true rfl) c27 ?_
      refine Runs.as (c' := (105, [.ref 93, .int x1, .int x2, .int x3, .int x4, .int x5, .int x6], [.int v9], (zS I10 J11 tg12))) rfl ?_
      by_cases c28 : v9 = 0
      · rw [if_pos c28] at h
        refine Runs.brT (P := v9 = 0) (a := 112) (b := 108) (L := [.ref 93, .int x1, .int x2, .int x3, .int x4, .int x5, .int x6]) (S := []) (z := (zS I10 J11 tg12)) rfl c28 ?_
        refine Runs.sN 1 (c' := (113, [.ref 93, .int x1, .int x2, .int x3, .int x4, .int x5, .int x6], [.int 0], (zS I10 J11 tg12))) rfl ?_
        subst h
        exact Runs.rt rfl
      · rw [if_neg c28] at h
        refine Runs.brF (P := v9 = 0) (a := 112) (b := 108) (L := [.ref 93, .int x1, .int x2, .int x3, .int x4, .int x5, .int x6]) (S := []) (z := (zS I10 J11 tg12)) rfl c28 ?_
        refine Runs.sN 2 (c' := (113, [.ref 93, .int x1, .int x2, .int x3, .int x4, .int x5, .int x6], [.int 1], (zS I10 J11 tg12))) rfl ?_
        subst h
        exact Runs.rt rfl
  · rw [if_neg c24] at h
    refine Runs.brF (P := v1 ≤ x6) (a := 79) (b := 36) (L := [.ref 93, .int x1, .int x2, .int x3, .int x4, .int x5, .int x6]) (S := []) (z := (zS I2 J3 tg4)) rfl c24 ?_
    refine Runs.sN 2 (c' := (39, [.ref 93, .int x1, .int x2, .int x3, .int x4, .int x5, .int x6], [.int x3, .int x6], (zS I2 J3 tg4))) rfl ?_
    by_cases c29 : x6 = x3
    · rw [if_pos c29] at h
      refine Runs.brT (P := x6 = x3) (a := 60) (b := 42) (L := [.ref 93, .int x1, .int x2, .int x3, .int x4, .int x5, .int x6]) (S := []) (z := (zS I2 J3 tg4)) rfl c29 ?_
      refine Runs.sN 1 (c' := (62, [.ref 93, .int x1, .int x2, .int x3, .int x4, .int x5, .int x6], [.int x4], (zS I2 J3 tg4))) rfl ?_
      by_cases c30 : x4 < 0
      · rw [if_pos c30] at h
        refine Runs.brT (P := x4 < 0) (a := 73) (b := 65) (L := [.ref 93, .int x1, .int x2, .int x3, .int x4, .int x5, .int x6]) (S := []) (z := (zS I2 J3 tg4)) rfl c30 ?_
        refine Runs.sN 2 (c' := (25, [.ref 93, .int x1, .int x2, .int x3, .int x4, .int x5, .int (x6 + 1)], [], (zS I2 J3 tg4))) rfl ?_
        exact h
      · rw [if_neg c30] at h
        refine Runs.brF (P := x4 < 0) (a := 73) (b := 65) (L := [.ref 93, .int x1, .int x2, .int x3, .int x4, .int x5, .int x6]) (S := []) (z := (zS I2 J3 tg4)) rfl c30 ?_
        refine Runs.sN 3 (c' := (70, [.ref 93, .int x1, .int x2, .int x3, .int x4, .int x5, .int x6], [.int x4, .int 24, .ref 93], (zS I2 J3 tg4))) rfl ?_
        obtain ⟨I13, J14, tg15, c31, h⟩ := h
        refine Runs.cl (cm := 189) (as := [.ref 93, .int 24, .int x4]) (rest := []) (r1 := (none, (zS I13 J14 tg15))) rfl (Nat.le_of_ble_eq_true rfl) c31 ?_
        refine Runs.as (c' := (73, [.ref 93, .int x1, .int x2, .int x3, .int x4, .int x5, .int x6], [], (zS I13 J14 tg15))) rfl ?_
        refine Runs.sN 2 (c' := (25, [.ref 93, .int x1, .int x2, .int x3, .int x4, .int x5, .int (x6 + 1)], [], (zS I13 J14 tg15))) rfl ?_
        exact h
    · rw [if_neg c29] at h
      refine Runs.brF (P := x6 = x3) (a := 60) (b := 42) (L := [.ref 93, .int x1, .int x2, .int x3, .int x4, .int x5, .int x6]) (S := []) (z := (zS I2 J3 tg4)) rfl c29 ?_
      refine Runs.sN 7 (c' := (51, [.ref 93, .int x1, .int x2, .int x3, .int x4, .int x5, .int x6], [.int (4 + x6), .int x1, .ref 93, .int 24, .ref 93], (zS I2 J3 tg4))) rfl ?_
      obtain ⟨v16, I17, J18, tg19, c32, h⟩ := h
      refine Runs.cl (cm := 184) (as := [.ref 93, .int x1, .int (4 + x6)]) (rest := [.int 24, .ref 93]) (r1 := ((some (.int v16)), (zS I17 J18 tg19))) rfl (Nat.le_of_ble_eq_true rfl) c32 ?_
      refine Runs.as (c' := (54, [.ref 93, .int x1, .int x2, .int x3, .int x4, .int x5, .int x6], [.int v16, .int 24, .ref 93], (zS I17 J18 tg19))) rfl ?_
      obtain ⟨I20, J21, tg22, c33, h⟩ := h
      refine Runs.cl (cm := 189) (as := [.ref 93, .int 24, .int v16]) (rest := []) (r1 := (none, (zS I20 J21 tg22))) rfl (Nat.le_of_ble_eq_true rfl) c33 ?_
      refine Runs.as (c' := (57, [.ref 93, .int x1, .int x2, .int x3, .int x4, .int x5, .int x6], [], (zS I20 J21 tg22))) rfl ?_
      refine Runs.sN 3 (c' := (25, [.ref 93, .int x1, .int x2, .int x3, .int x4, .int x5, .int (x6 + 1)], [], (zS I20 J21 tg22))) rfl ?_
      exact h
