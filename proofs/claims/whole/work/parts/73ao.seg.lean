-- X12_isSome 
theorem sg_241 {L d : Nat} {xs : Nat → Int32} (I : Nat → Nat → Int32) (J : Nat → Nat → Int64) (tg : Option Nat) (a1 : Int32) (a2 : Int32) (a3 : Int32) {r : Option Value × SS} (h : (∃ (I7 : Nat → Nat → Int32) (J8 : Nat → Nat → Int64), Runs (GW L xs) d 240 (0, [.ref 93, .int a1, vU], [], (zS I J tg)) (none, (zS I7 J8 tg)) ∧ Runs (GW L xs) (d + 1) 241 (16, [.ref 93, .int a1, .int a2, .int a3, .int (I 94 4), .int 0, vU], [], (zS I7 J8 tg)) r)) : Runs (GW L xs) (d + 1) 241 (0, [.ref 93, .int a1, .int a2, .int a3, vU, vU, vU], [], (zS I J tg)) r := by
  refine Runs.sN 7 (c' := (10, [.ref 93, .int a1, .int a2, .int a3, .int (I 94 4), vU, vU], [.int a1, .ref 93], (zS I J tg))) rfl ?_
  obtain ⟨I7, J8, c9, h⟩ := h
  refine Runs.cl (cm := 240) (as := [.ref 93, .int a1]) (rest := []) (r1 := (none, (zS I7 J8 tg))) rfl (Nat.le_of_ble_eq_true rfl) c9 ?_
  refine Runs.as (c' := (13, [.ref 93, .int a1, .int a2, .int a3, .int (I 94 4), vU, vU], [], (zS I7 J8 tg))) rfl ?_
  refine Runs.sN 2 (c' := (16, [.ref 93, .int a1, .int a2, .int a3, .int (I 94 4), .int 0, vU], [], (zS I7 J8 tg))) rfl ?_
  exact h
theorem sg_241_16 {L d : Nat} {xs : Nat → Int32} (I : Nat → Nat → Int32) (J : Nat → Nat → Int64) (tg : Option Nat) (x1 : Int32) (x2 : Int32) (x3 : Int32) (x4 : Int32) (x5 : Int32) {r : Option Value × SS} (h : ((if x4 < 0 then (r = (some (.int 0), (zS I J tg))) else (¬ ((800 * x4) < 0 ∨ 3200 ≤ (800 * x4).toNatClampNeg) ∧ (if (I 96 ((800 * x4).toNatClampNeg)) ≤ x5 then (r = (some (.int 0), (zS I J tg))) else (¬ ((((800 * x4) + 1) + (3 * x5)) < 0 ∨ 3200 ≤ (((800 * x4) + 1) + (3 * x5)).toNatClampNeg) ∧ (if (I 96 ((((800 * x4) + 1) + (3 * x5)).toNatClampNeg)) = x2 then (¬ (((((800 * x4) + 1) + (3 * x5)) + 1) < 0 ∨ 3200 ≤ ((((800 * x4) + 1) + (3 * x5)) + 1).toNatClampNeg) ∧ ¬ (((((800 * x4) + 1) + (3 * x5)) + 2) < 0 ∨ 3200 ≤ ((((800 * x4) + 1) + (3 * x5)) + 2).toNatClampNeg) ∧ ∃ (I1 : Nat → Nat → Int32) (J2 : Nat → Nat → Int64), Runs (GW L xs) d 239 (0, [.ref 93, .int x4, .int (I 96 (((((800 * x4) + 1) + (3 * x5)) + 1).toNatClampNeg)), .int (I 96 (((((800 * x4) + 1) + (3 * x5)) + 2).toNatClampNeg)), vU, vU, vU, vU, vU, vU], [], (zS I J tg)) (none, (zS I1 J2 tg)) ∧ (if (I1 105 0) = x3 then (r = (some (.int 1), (zS I1 J2 tg))) else (Runs (GW L xs) (d + 1) 241 (16, [.ref 93, .int x1, .int x2, .int x3, .int x4, .int (x5 + 1), vU], [], (zS I1 J2 tg)) r))) else (Runs (GW L xs) (d + 1) 241 (16, [.ref 93, .int x1, .int x2, .int x3, .int x4, .int (x5 + 1), vU], [], (zS I J tg)) r)))))))) : Runs (GW L xs) (d + 1) 241 (16, [.ref 93, .int x1, .int x2, .int x3, .int x4, .int x5, vU], [], (zS I J tg)) r := by
  refine Runs.sN 1 (c' := (18, [.ref 93, .int x1, .int x2, .int x3, .int x4, .int x5, vU], [.int x4], (zS I J tg))) rfl ?_
  by_cases c3 : x4 < 0
  · rw [if_pos c3] at h
    refine Runs.brT (P := x4 < 0) (a := 108) (b := 21) (L := [.ref 93, .int x1, .int x2, .int x3, .int x4, .int x5, vU]) (S := []) (z := (zS I J tg)) rfl c3 ?_
    refine Runs.sN 1 (c' := (109, [.ref 93, .int x1, .int x2, .int x3, .int x4, .int x5, vU], [.int 0], (zS I J tg))) rfl ?_
    subst h
    exact Runs.rt rfl
  · rw [if_neg c3] at h
    refine Runs.brF (P := x4 < 0) (a := 108) (b := 21) (L := [.ref 93, .int x1, .int x2, .int x3, .int x4, .int x5, vU]) (S := []) (z := (zS I J tg)) rfl c3 ?_
    refine Runs.sN 6 (c' := (33, [.ref 93, .int x1, .int x2, .int x3, .int x4, .int x5, vU], [.int (800 * x4), .ref 96, .int x5], (zS I J tg))) rfl ?_
    obtain ⟨c4, h⟩ := h
    refine Runs.to (c' := (34, [.ref 93, .int x1, .int x2, .int x3, .int x4, .int x5, vU], [.int (I 96 ((800 * x4).toNatClampNeg)), .int x5], (zS I J tg))) (Runs.ild rfl (show (96 : Nat) < 114 by decide) rfl c4) ?_
    by_cases c5 : (I 96 ((800 * x4).toNatClampNeg)) ≤ x5
    · rw [if_pos c5] at h
      refine Runs.brT (P := (I 96 ((800 * x4).toNatClampNeg)) ≤ x5) (a := 108) (b := 37) (L := [.ref 93, .int x1, .int x2, .int x3, .int x4, .int x5, vU]) (S := []) (z := (zS I J tg)) rfl c5 ?_
      refine Runs.sN 1 (c' := (109, [.ref 93, .int x1, .int x2, .int x3, .int x4, .int x5, vU], [.int 0], (zS I J tg))) rfl ?_
      subst h
      exact Runs.rt rfl
    · rw [if_neg c5] at h
      refine Runs.brF (P := (I 96 ((800 * x4).toNatClampNeg)) ≤ x5) (a := 108) (b := 37) (L := [.ref 93, .int x1, .int x2, .int x3, .int x4, .int x5, vU]) (S := []) (z := (zS I J tg)) rfl c5 ?_
      refine Runs.sN 13 (c' := (58, [.ref 93, .int x1, .int x2, .int x3, .int x4, .int x5, .int (((800 * x4) + 1) + (3 * x5))], [.int (((800 * x4) + 1) + (3 * x5)), .ref 96], (zS I J tg))) rfl ?_
      obtain ⟨c6, h⟩ := h
      refine Runs.to (c' := (59, [.ref 93, .int x1, .int x2, .int x3, .int x4, .int x5, .int (((800 * x4) + 1) + (3 * x5))], [.int (I 96 ((((800 * x4) + 1) + (3 * x5)).toNatClampNeg))], (zS I J tg))) (Runs.ild rfl (show (96 : Nat) < 114 by decide) rfl c6) ?_
      refine Runs.sN 1 (c' := (60, [.ref 93, .int x1, .int x2, .int x3, .int x4, .int x5, .int (((800 * x4) + 1) + (3 * x5))], [.int x2, .int (I 96 ((((800 * x4) + 1) + (3 * x5)).toNatClampNeg))], (zS I J tg))) rfl ?_
      by_cases c7 : (I 96 ((((800 * x4) + 1) + (3 * x5)).toNatClampNeg)) = x2
      · rw [if_pos c7] at h
        refine Runs.brT (P := (I 96 ((((800 * x4) + 1) + (3 * x5)).toNatClampNeg)) = x2) (a := 66) (b := 63) (L := [.ref 93, .int x1, .int x2, .int x3, .int x4, .int x5, .int (((800 * x4) + 1) + (3 * x5))]) (S := []) (z := (zS I J tg)) rfl c7 ?_
        refine Runs.sN 7 (c' := (77, [.ref 93, .int x1, .int x2, .int x3, .int x4, .int x5, .int (((800 * x4) + 1) + (3 * x5))], [.int ((((800 * x4) + 1) + (3 * x5)) + 1), .ref 96, .int x4, .ref 93], (zS I J tg))) rfl ?_
        obtain ⟨c8, h⟩ := h
        refine Runs.to (c' := (78, [.ref 93, .int x1, .int x2, .int x3, .int x4, .int x5, .int (((800 * x4) + 1) + (3 * x5))], [.int (I 96 (((((800 * x4) + 1) + (3 * x5)) + 1).toNatClampNeg)), .int x4, .ref 93], (zS I J tg))) (Runs.ild rfl (show (96 : Nat) < 114 by decide) rfl c8) ?_
        refine Runs.sN 5 (c' := (86, [.ref 93, .int x1, .int x2, .int x3, .int x4, .int x5, .int (((800 * x4) + 1) + (3 * x5))], [.int ((((800 * x4) + 1) + (3 * x5)) + 2), .ref 96, .int (I 96 (((((800 * x4) + 1) + (3 * x5)) + 1).toNatClampNeg)), .int x4, .ref 93], (zS I J tg))) rfl ?_
        obtain ⟨c9, h⟩ := h
        refine Runs.to (c' := (87, [.ref 93, .int x1, .int x2, .int x3, .int x4, .int x5, .int (((800 * x4) + 1) + (3 * x5))], [.int (I 96 (((((800 * x4) + 1) + (3 * x5)) + 2).toNatClampNeg)), .int (I 96 (((((800 * x4) + 1) + (3 * x5)) + 1).toNatClampNeg)), .int x4, .ref 93], (zS I J tg))) (Runs.ild rfl (show (96 : Nat) < 114 by decide) rfl c9) ?_
        obtain ⟨I1, J2, c10, h⟩ := h
        refine Runs.cl (cm := 239) (as := [.ref 93, .int x4, .int (I 96 (((((800 * x4) + 1) + (3 * x5)) + 1).toNatClampNeg)), .int (I 96 (((((800 * x4) + 1) + (3 * x5)) + 2).toNatClampNeg))]) (rest := []) (r1 := (none, (zS I1 J2 tg))) rfl (Nat.le_of_ble_eq_true rfl) c10 ?_
        refine Runs.as (c' := (90, [.ref 93, .int x1, .int x2, .int x3, .int x4, .int x5, .int (((800 * x4) + 1) + (3 * x5))], [], (zS I1 J2 tg))) rfl ?_
        refine Runs.sN 5 (c' := (97, [.ref 93, .int x1, .int x2, .int x3, .int x4, .int x5, .int (((800 * x4) + 1) + (3 * x5))], [.int x3, .int (I1 105 0)], (zS I1 J2 tg))) rfl ?_
        by_cases c11 : (I1 105 0) = x3
        · rw [if_pos c11] at h
          refine Runs.brT (P := (I1 105 0) = x3) (a := 100) (b := 102) (L := [.ref 93, .int x1, .int x2, .int x3, .int x4, .int x5, .int (((800 * x4) + 1) + (3 * x5))]) (S := []) (z := (zS I1 J2 tg)) rfl c11 ?_
          refine Runs.sN 1 (c' := (101, [.ref 93, .int x1, .int x2, .int x3, .int x4, .int x5, .int (((800 * x4) + 1) + (3 * x5))], [.int 1], (zS I1 J2 tg))) rfl ?_
          subst h
          exact Runs.rt rfl
        · rw [if_neg c11] at h
          refine Runs.brF (P := (I1 105 0) = x3) (a := 100) (b := 102) (L := [.ref 93, .int x1, .int x2, .int x3, .int x4, .int x5, .int (((800 * x4) + 1) + (3 * x5))]) (S := []) (z := (zS I1 J2 tg)) rfl c11 ?_
          refine Runs.sN 2 (c' := (16, [.ref 93, .int x1, .int x2, .int x3, .int x4, .int (x5 + 1), .int (((800 * x4) + 1) + (3 * x5))], [], (zS I1 J2 tg))) rfl ?_
          exact Runs.weak (L := [.ref 93, .int x1, .int x2, .int x3, .int x4, .int (x5 + 1), vU]) (Lle.k (Lle.k (Lle.k (Lle.k (Lle.k (Lle.k (Lle.u Lle.n))))))) h
      · rw [if_neg c7] at h
        refine Runs.brF (P := (I 96 ((((800 * x4) + 1) + (3 * x5)).toNatClampNeg)) = x2) (a := 66) (b := 63) (L := [.ref 93, .int x1, .int x2, .int x3, .int x4, .int x5, .int (((800 * x4) + 1) + (3 * x5))]) (S := []) (z := (zS I J tg)) rfl c7 ?_
        refine Runs.sN 3 (c' := (16, [.ref 93, .int x1, .int x2, .int x3, .int x4, .int (x5 + 1), .int (((800 * x4) + 1) + (3 * x5))], [], (zS I J tg))) rfl ?_
        exact Runs.weak (L := [.ref 93, .int x1, .int x2, .int x3, .int x4, .int (x5 + 1), vU]) (Lle.k (Lle.k (Lle.k (Lle.k (Lle.k (Lle.k (Lle.u Lle.n))))))) h
-- X12_saysNot 
theorem sg_242 {L d : Nat} {xs : Nat → Int32} (I : Nat → Nat → Int32) (J : Nat → Nat → Int64) (tg : Option Nat) (a1 : Int32) {r : Option Value × SS} (h : (∃ (v4 : Int32) (I5 : Nat → Nat → Int32) (J6 : Nat → Nat → Int64), Runs (GW L xs) d 241 (0, [.ref 93, .int a1, .int 1, .int 1, vU, vU, vU], [], (zS I J tg)) ((some (.int v4)), (zS I5 J6 tg)) ∧ (v4 = 0 ∨ v4 = 1) ∧ r = (some (.int v4), (zS I5 J6 tg)))) : Runs (GW L xs) (d + 1) 242 (0, [.ref 93, .int a1], [], (zS I J tg)) r := by
  refine Runs.sN 4 (c' := (4, [.ref 93, .int a1], [.int 1, .int 1, .int a1, .ref 93], (zS I J tg))) rfl ?_
  obtain ⟨v4, I5, J6, c7, h⟩ := h
  refine Runs.cl (cm := 241) (as := [.ref 93, .int a1, .int 1, .int 1]) (rest := []) (r1 := ((some (.int v4)), (zS I5 J6 tg))) rfl (Nat.le_of_ble_eq_true rfl) c7 ?_
  refine Runs.as (c' := (7, [.ref 93, .int a1], [.int v4], (zS I5 J6 tg))) rfl ?_
  obtain ⟨h0, h⟩ := h
  subst h
  exact Runs.zrt rfl rfl h0
-- X12_isOf 
theorem sg_243 {L d : Nat} {xs : Nat → Int32} (I : Nat → Nat → Int32) (J : Nat → Nat → Int64) (tg : Option Nat) (a1 : Int32) {r : Option Value × SS} (h : (∃ (v4 : Int32) (I5 : Nat → Nat → Int32) (J6 : Nat → Nat → Int64), Runs (GW L xs) d 241 (0, [.ref 93, .int a1, .int 2, .int 0, vU, vU, vU], [], (zS I J tg)) ((some (.int v4)), (zS I5 J6 tg)) ∧ (if v4 = 0 then (r = (some (.int 1), (zS I5 J6 tg))) else (r = (some (.int 0), (zS I5 J6 tg)))))) : Runs (GW L xs) (d + 1) 243 (0, [.ref 93, .int a1], [], (zS I J tg)) r := by
  refine Runs.sN 4 (c' := (4, [.ref 93, .int a1], [.int 0, .int 2, .int a1, .ref 93], (zS I J tg))) rfl ?_
  obtain ⟨v4, I5, J6, c7, h⟩ := h
  refine Runs.cl (cm := 241) (as := [.ref 93, .int a1, .int 2, .int 0]) (rest := []) (r1 := ((some (.int v4)), (zS I5 J6 tg))) rfl (Nat.le_of_ble_eq_true rfl) c7 ?_
  refine Runs.as (c' := (7, [.ref 93, .int a1], [.int v4], (zS I5 J6 tg))) rfl ?_
  by_cases c8 : v4 = 0
  · rw [if_pos c8] at h
    refine Runs.brT (P := v4 = 0) (a := 10) (b := 14) (L := [.ref 93, .int a1]) (S := []) (z := (zS I5 J6 tg)) rfl c8 ?_
    refine Runs.sN 2 (c' := (15, [.ref 93, .int a1], [.int 1], (zS I5 J6 tg))) rfl ?_
    subst h
    exact Runs.rt rfl
  · rw [if_neg c8] at h
    refine Runs.brF (P := v4 = 0) (a := 10) (b := 14) (L := [.ref 93, .int a1]) (S := []) (z := (zS I5 J6 tg)) rfl c8 ?_
    refine Runs.sN 1 (c' := (15, [.ref 93, .int a1], [.int 0], (zS I5 J6 tg))) rfl ?_
    subst h
    exact Runs.rt rfl
-- X12_says 
theorem sg_244 {L d : Nat} {xs : Nat → Int32} (I : Nat → Nat → Int32) (J : Nat → Nat → Int64) (tg : Option Nat) (a1 : Int32) (a2 : Int32) {r : Option Value × SS} (h : (∃ (v13 : Int32) (I14 : Nat → Nat → Int32) (J15 : Nat → Nat → Int64), Runs (GW L xs) d 179 (0, [.ref 93, .int a1], [], (zS I J tg)) ((some (.int v13)), (zS I14 J15 tg)) ∧ (if v13 = 0 then (r = (some (.int (-1)), (zS I14 J15 tg))) else (∃ (v16 : Int32) (I17 : Nat → Nat → Int32) (J18 : Nat → Nat → Int64), Runs (GW L xs) d 177 (0, [.int a2, .int 0, .int 1], [], (zS I14 J15 tg)) ((some (.int v16)), (zS I17 J18 tg)) ∧ (if v16 = 0 then (r = (some (.int (-1)), (zS I17 J18 tg))) else ((if a2 = 0 then (∃ (v19 : Int32) (I20 : Nat → Nat → Int32) (J21 : Nat → Nat → Int64), Runs (GW L xs) d 242 (0, [.ref 93, .int a1], [], (zS I17 J18 tg)) ((some (.int v19)), (zS I20 J21 tg)) ∧ (if v19 = 0 then (r = (some (.int 0), (zS I20 J21 tg))) else (r = (some (.int 1), (zS I20 J21 tg))))) else (∃ (v22 : Int32) (I23 : Nat → Nat → Int32) (J24 : Nat → Nat → Int64), Runs (GW L xs) d 243 (0, [.ref 93, .int a1], [], (zS I17 J18 tg)) ((some (.int v22)), (zS I23 J24 tg)) ∧ (if v22 = 0 then (r = (some (.int 0), (zS I23 J24 tg))) else (r = (some (.int 1), (zS I23 J24 tg)))))))))))) : Runs (GW L xs) (d + 1) 244 (0, [.ref 93, .int a1, .int a2], [], (zS I J tg)) r := by
  refine Runs.sN 2 (c' := (2, [.ref 93, .int a1, .int a2], [.int a1, .ref 93], (zS I J tg))) rfl ?_
  obtain ⟨v13, I14, J15, c25, h⟩ := h
  refine Runs.cl (cm := 179) (as := [.ref 93, .int a1]) (rest := []) (r1 := ((some (.int v13)), (zS I14 J15 tg))) rfl (Nat.le_of_ble_eq_true rfl) c25 ?_
  refine Runs.as (c' := (5, [.ref 93, .int a1, .int a2], [.int v13], (zS I14 J15 tg))) rfl ?_
  by_cases c26 : v13 = 0
  · rw [if_pos c26] at h
    refine Runs.brT (P := v13 = 0) (a := 17) (b := 8) (L := [.ref 93, .int a1, .int a2]) (S := []) (z := (zS I14 J15 tg)) rfl c26 ?_
    refine Runs.sN 1 (c' := (18, [.ref 93, .int a1, .int a2], [.int (-1)], (zS I14 J15 tg))) rfl ?_
    subst h
    exact Runs.rt rfl
  · rw [if_neg c26] at h
    refine Runs.brF (P := v13 = 0) (a := 17) (b := 8) (L := [.ref 93, .int a1, .int a2]) (S := []) (z := (zS I14 J15 tg)) rfl c26 ?_
    refine Runs.sN 3 (c' := (11, [.ref 93, .int a1, .int a2], [.int 1, .int 0, .int a2], (zS I14 J15 tg))) rfl ?_
    obtain ⟨v16, I17, J18, c27, h⟩ := h
    refine Runs.cl (cm := 177) (as := [.int a2, .int 0, .int 1]) (rest := []) (r1 := ((some (.int v16)), (zS I17 J18 tg))) rfl (Nat.le_of_ble_eq_true rfl) c27 ?_
    refine Runs.as (c' := (14, [.ref 93, .int a1, .int a2], [.int v16], (zS I17 J18 tg))) rfl ?_
    by_cases c28 : v16 = 0
    · rw [if_pos c28] at h
      refine Runs.brT (P := v16 = 0) (a := 17) (b := 19) (L := [.ref 93, .int a1, .int a2]) (S := []) (z := (zS I17 J18 tg)) rfl c28 ?_
      refine Runs.sN 1 (c' := (18, [.ref 93, .int a1, .int a2], [.int (-1)], (zS I17 J18 tg))) rfl ?_
      subst h
      exact Runs.rt rfl
    · rw [if_neg c28] at h
      refine Runs.brF (P := v16 = 0) (a := 17) (b := 19) (L := [.ref 93, .int a1, .int a2]) (S := []) (z := (zS I17 J18 tg)) rfl c28 ?_
      refine Runs.sN 1 (c' := (20, [.ref 93, .int a1, .int a2], [.int a2], (zS I17 J18 tg))) rfl ?_
      by_cases c29 : a2 = 0
      · rw [if_pos c29] at h
        refine Runs.brT (P := a2 = 0) (a := 23) (b := 34) (L := [.ref 93, .int a1, .int a2]) (S := []) (z := (zS I17 J18 tg)) rfl c29 ?_
        refine Runs.sN 2 (c' := (25, [.ref 93, .int a1, .int a2], [.int a1, .ref 93], (zS I17 J18 tg))) rfl ?_
        obtain ⟨v19, I20, J21, c30, h⟩ := h
        refine Runs.cl (cm := 242) (as := [.ref 93, .int a1]) (rest := []) (r1 := ((some (.int v19)), (zS I20 J21 tg))) rfl (Nat.le_of_ble_eq_true rfl) c30 ?_
        refine Runs.as (c' := (28, [.ref 93, .int a1, .int a2], [.int v19], (zS I20 J21 tg))) rfl ?_
        by_cases c31 : v19 = 0
        · rw [if_pos c31] at h
          refine Runs.brT (P := v19 = 0) (a := 46) (b := 31) (L := [.ref 93, .int a1, .int a2]) (S := []) (z := (zS I20 J21 tg)) rfl c31 ?_
          refine Runs.sN 1 (c' := (47, [.ref 93, .int a1, .int a2], [.int 0], (zS I20 J21 tg))) rfl ?_
          subst h
          exact Runs.rt rfl
        · rw [if_neg c31] at h
          refine Runs.brF (P := v19 = 0) (a := 46) (b := 31) (L := [.ref 93, .int a1, .int a2]) (S := []) (z := (zS I20 J21 tg)) rfl c31 ?_
          refine Runs.sN 3 (c' := (47, [.ref 93, .int a1, .int a2], [.int 1], (zS I20 J21 tg))) rfl ?_
          subst h
          exact Runs.rt rfl
      · rw [if_neg c29] at h
        refine Runs.brF (P := a2 = 0) (a := 23) (b := 34) (L := [.ref 93, .int a1, .int a2]) (S := []) (z := (zS I17 J18 tg)) rfl c29 ?_
        refine Runs.sN 2 (c' := (36, [.ref 93, .int a1, .int a2], [.int a1, .ref 93], (zS I17 J18 tg))) rfl ?_
        obtain ⟨v22, I23, J24, c32, h⟩ := h
        refine Runs.cl (cm := 243) (as := [.ref 93, .int a1]) (rest := []) (r1 := ((some (.int v22)), (zS I23 J24 tg))) rfl (Nat.le_of_ble_eq_true rfl) c32 ?_
        refine Runs.as (c' := (39, [.ref 93, .int a1, .int a2], [.int v22], (zS I23 J24 tg))) rfl ?_
        by_cases c33 : v22 = 0
        · rw [if_pos c33] at h
          refine Runs.brT (P := v22 = 0) (a := 46) (b := 42) (L := [.ref 93, .int a1, .int a2]) (S := []) (z := (zS I23 J24 tg)) rfl c33 ?_
          refine Runs.sN 1 (c' := (47, [.ref 93, .int a1, .int a2], [.int 0], (zS I23 J24 tg))) rfl ?_
          subst h
          exact Runs.rt rfl
        · rw [if_neg c33] at h
          refine Runs.brF (P := v22 = 0) (a := 46) (b := 42) (L := [.ref 93, .int a1, .int a2]) (S := []) (z := (zS I23 J24 tg)) rfl c33 ?_
          refine Runs.sN 2 (c' := (47, [.ref 93, .int a1, .int a2], [.int 1], (zS I23 J24 tg))) rfl ?_
          subst h
          exact Runs.rt rfl
-- X12_isRead 
theorem sg_245 {L d : Nat} {xs : Nat → Int32} (I : Nat → Nat → Int32) (J : Nat → Nat → Int64) (tg : Option Nat) (a1 : Int32) (a2 : Int32) {r : Option Value × SS} (h : (∃ (v13 : Int32) (I14 : Nat → Nat → Int32) (J15 : Nat → Nat → Int64), Runs (GW L xs) d 184 (0, [.ref 93, .int a1, .int 2], [], (zS I J tg)) ((some (.int v13)), (zS I14 J15 tg)) ∧ (if v13 < 0 then (r = (some (.int 0), (zS I14 J15 tg))) else (∃ (v16 : Int32) (I17 : Nat → Nat → Int32) (J18 : Nat → Nat → Int64), Runs (GW L xs) d 184 (0, [.ref 93, .int a1, .int 2], [], (zS I14 J15 tg)) ((some (.int v16)), (zS I17 J18 tg)) ∧ (if a2 = v16 then (∃ (v19 : Int32) (I20 : Nat → Nat → Int32) (J21 : Nat → Nat → Int64), Runs (GW L xs) d 242 (0, [.ref 93, .int a1], [], (zS I17 J18 tg)) ((some (.int v19)), (zS I20 J21 tg)) ∧ ∃ (v22 : Int32) (I23 : Nat → Nat → Int32) (J24 : Nat → Nat → Int64), Runs (GW L xs) d 184 (0, [.ref 93, .int a1, .int 3], [], (zS I20 J21 tg)) ((some (.int v22)), (zS I23 J24 tg)) ∧ (if v22 = 1 then ((if v19 = 1 then (r = (some (.int 1), (zS I23 J24 tg))) else (r = (some (.int 0), (zS I23 J24 tg))))) else ((if v19 = 0 then (r = (some (.int 1), (zS I23 J24 tg))) else (r = (some (.int 0), (zS I23 J24 tg))))))) else (r = (some (.int 0), (zS I17 J18 tg)))))))) : Runs (GW L xs) (d + 1) 245 (0, [.ref 93, .int a1, .int a2], [], (zS I J tg)) r := by
  refine Runs.sN 3 (c' := (3, [.ref 93, .int a1, .int a2], [.int 2, .int a1, .ref 93], (zS I J tg))) rfl ?_
  obtain ⟨v13, I14, J15, c25, h⟩ := h
  refine Runs.cl (cm := 184) (as := [.ref 93, .int a1, .int 2]) (rest := []) (r1 := ((some (.int v13)), (zS I14 J15 tg))) rfl (Nat.le_of_ble_eq_true rfl) c25 ?_
  refine Runs.as (c' := (6, [.ref 93, .int a1, .int a2], [.int v13], (zS I14 J15 tg))) rfl ?_
  by_cases c26 : v13 < 0
  · rw [if_pos c26] at h
    refine Runs.brT (P := v13 < 0) (a := 46) (b := 9) (L := [.ref 93, .int a1, .int a2]) (S := []) (z := (zS I14 J15 tg)) rfl c26 ?_
    refine Runs.sN 1 (c' := (47, [.ref 93, .int a1, .int a2], [.int 0], (zS I14 J15 tg))) rfl ?_
    subst h
    exact Runs.rt rfl
  · rw [if_neg c26] at h
    refine Runs.brF (P := v13 < 0) (a := 46) (b := 9) (L := [.ref 93, .int a1, .int a2]) (S := []) (z := (zS I14 J15 tg)) rfl c26 ?_
    refine Runs.sN 4 (c' := (13, [.ref 93, .int a1, .int a2], [.int 2, .int a1, .ref 93, .int a2], (zS I14 J15 tg))) rfl ?_
    obtain ⟨v16, I17, J18, c27, h⟩ := h
    refine Runs.cl (cm := 184) (as := [.ref 93, .int a1, .int 2]) (rest := [.int a2]) (r1 := ((some (.int v16)), (zS I17 J18 tg))) rfl (Nat.le_of_ble_eq_true rfl) c27 ?_
    refine Runs.as (c' := (16, [.ref 93, .int a1, .int a2], [.int v16, .int a2], (zS I17 J18 tg))) rfl ?_
    by_cases c28 : a2 = v16
    · rw [if_pos c28] at h
      refine Runs.brT (P := a2 = v16) (a := 19) (b := 46) (L := [.ref 93, .int a1, .int a2]) (S := []) (z := (zS I17 J18 tg)) rfl c28 ?_
      refine Runs.sN 2 (c' := (21, [.ref 93, .int a1, .int a2], [.int a1, .ref 93], (zS I17 J18 tg))) rfl ?_
      obtain ⟨v19, I20, J21, c29, h⟩ := h
      refine Runs.cl (cm := 242) (as := [.ref 93, .int a1]) (rest := []) (r1 := ((some (.int v19)), (zS I20 J21 tg))) rfl (Nat.le_of_ble_eq_true rfl) c29 ?_
      refine Runs.as (c' := (24, [.ref 93, .int a1, .int a2], [.int v19], (zS I20 J21 tg))) rfl ?_
      refine Runs.sN 3 (c' := (27, [.ref 93, .int a1, .int a2], [.int 3, .int a1, .ref 93, .int v19], (zS I20 J21 tg))) rfl ?_
      obtain ⟨v22, I23, J24, c30, h⟩ := h
      refine Runs.cl (cm := 184) (as := [.ref 93, .int a1, .int 3]) (rest := [.int v19]) (r1 := ((some (.int v22)), (zS I23 J24 tg))) rfl (Nat.le_of_ble_eq_true rfl) c30 ?_
      refine Runs.as (c' := (30, [.ref 93, .int a1, .int a2], [.int v22, .int v19], (zS I23 J24 tg))) rfl ?_
      refine Runs.sN 1 (c' := (31, [.ref 93, .int a1, .int a2], [.int 1, .int v22, .int v19], (zS I23 J24 tg))) rfl ?_
      by_cases c31 : v22 = 1
      · rw [if_pos c31] at h
        refine Runs.brT (P := v22 = 1) (a := 34) (b := 38) (L := [.ref 93, .int a1, .int a2]) (S := [.int v19]) (z := (zS I23 J24 tg)) rfl c31 ?_
        refine Runs.sN 2 (c' := (39, [.ref 93, .int a1, .int a2], [.int 1, .int v19], (zS I23 J24 tg))) rfl ?_
        by_cases c32 : v19 = 1
        · rw [if_pos c32] at h
          refine Runs.brT (P := v19 = 1) (a := 42) (b := 46) (L := [.ref 93, .int a1, .int a2]) (S := []) (z := (zS I23 J24 tg)) rfl c32 ?_
          refine Runs.sN 2 (c' := (47, [.ref 93, .int a1, .int a2], [.int 1], (zS I23 J24 tg))) rfl ?_
          subst h
          exact Runs.rt rfl
        · rw [if_neg c32] at h
          refine Runs.brF (P := v19 = 1) (a := 42) (b := 46) (L := [.ref 93, .int a1, .int a2]) (S := []) (z := (zS I23 J24 tg)) rfl c32 ?_
          refine Runs.sN 1 (c' := (47, [.ref 93, .int a1, .int a2], [.int 0], (zS I23 J24 tg))) rfl ?_
          subst h
          exact Runs.rt rfl
      · rw [if_neg c31] at h
        refine Runs.brF (P := v22 = 1) (a := 34) (b := 38) (L := [.ref 93, .int a1, .int a2]) (S := [.int v19]) (z := (zS I23 J24 tg)) rfl c31 ?_
        refine Runs.sN 1 (c' := (39, [.ref 93, .int a1, .int a2], [.int 0, .int v19], (zS I23 J24 tg))) rfl ?_
        by_cases c33 : v19 = 0
        · rw [if_pos c33] at h
          refine Runs.brT (P := v19 = 0) (a := 42) (b := 46) (L := [.ref 93, .int a1, .int a2]) (S := []) (z := (zS I23 J24 tg)) rfl c33 ?_
          refine Runs.sN 2 (c' := (47, [.ref 93, .int a1, .int a2], [.int 1], (zS I23 J24 tg))) rfl ?_
          subst h
          exact Runs.rt rfl
        · rw [if_neg c33] at h
          refine Runs.brF (P := v19 = 0) (a := 42) (b := 46) (L := [.ref 93, .int a1, .int a2]) (S := []) (z := (zS I23 J24 tg)) rfl c33 ?_
          refine Runs.sN 1 (c' := (47, [.ref 93, .int a1, .int a2], [.int 0], (zS I23 J24 tg))) rfl ?_
          subst h
          exact Runs.rt rfl
    · rw [if_neg c28] at h
      refine Runs.brF (P := a2 = v16) (a := 19) (b := 46) (L := [.ref 93, .int a1, .int a2]) (S := []) (z := (zS I17 J18 tg)) rfl c28 ?_
      refine Runs.sN 1 (c' := (47, [.ref 93, .int a1, .int a2], [.int 0], (zS I17 J18 tg))) rfl ?_
      subst h
      exact Runs.rt rfl
-- X12_isLearnt 
theorem sg_246 {L d : Nat} {xs : Nat → Int32} (I : Nat → Nat → Int32) (J : Nat → Nat → Int64) (tg : Option Nat) (a1 : Int32) (a2 : Int32) {r : Option Value × SS} (h : (¬ (((600 + (6 * a1)) + a2) < 0 ∨ 1200 ≤ ((600 + (6 * a1)) + a2).toNatClampNeg) ∧ (if (I 94 (((600 + (6 * a1)) + a2).toNatClampNeg)) < 500 then (r = (some (.int 0), (zS I J tg))) else (r = (some (.int 1), (zS I J tg)))))) : Runs (GW L xs) d 246 (0, [.ref 93, .int a1, .int a2], [], (zS I J tg)) r := by
  refine Runs.sN 9 (c' := (14, [.ref 93, .int a1, .int a2], [.int ((600 + (6 * a1)) + a2), .ref 94], (zS I J tg))) rfl ?_
  obtain ⟨c1, h⟩ := h
  refine Runs.to (c' := (15, [.ref 93, .int a1, .int a2], [.int (I 94 (((600 + (6 * a1)) + a2).toNatClampNeg))], (zS I J tg))) (Runs.ild rfl (show (94 : Nat) < 114 by decide) rfl c1) ?_
  refine Runs.sN 1 (c' := (18, [.ref 93, .int a1, .int a2], [.int 500, .int (I 94 (((600 + (6 * a1)) + a2).toNatClampNeg))], (zS I J tg))) rfl ?_
  by_cases c2 : (I 94 (((600 + (6 * a1)) + a2).toNatClampNeg)) < 500
  · rw [if_pos c2] at h
    refine Runs.brT (P := (I 94 (((600 + (6 * a1)) + a2).toNatClampNeg)) < 500) (a := 25) (b := 21) (L := [.ref 93, .int a1, .int a2]) (S := []) (z := (zS I J tg)) rfl c2 ?_
    refine Runs.sN 1 (c' := (26, [.ref 93, .int a1, .int a2], [.int 0], (zS I J tg))) rfl ?_
    subst h
    exact Runs.rt rfl
  · rw [if_neg c2] at h
    refine Runs.brF (P := (I 94 (((600 + (6 * a1)) + a2).toNatClampNeg)) < 500) (a := 25) (b := 21) (L := [.ref 93, .int a1, .int a2]) (S := []) (z := (zS I J tg)) rfl c2 ?_
    refine Runs.sN 2 (c' := (26, [.ref 93, .int a1, .int a2], [.int 1], (zS I J tg))) rfl ?_
    subst h
    exact Runs.rt rfl
-- X12_harmOf 
theorem sg_247 {L d : Nat} {xs : Nat → Int32} (I : Nat → Nat → Int32) (J : Nat → Nat → Int64) (tg : Option Nat) (a1 : Int32) (a2 : Int32) (a3 : Int32) (a4 : Int32) {r : Option Value × SS} (h : (∃ (v35 : Int32) (I36 : Nat → Nat → Int32) (J37 : Nat → Nat → Int64), Runs (GW L xs) d 242 (0, [.ref 93, .int a1], [], (zS I J tg)) ((some (.int v35)), (zS I36 J37 tg)) ∧ Runs (GW L xs) (d + 1) 247 (18, [.ref 93, .int a1, .int a2, .int a3, .int a4, .int (I 94 4), .int v35, .int 0, vU], [], (zS I36 J37 tg)) r)) : Runs (GW L xs) (d + 1) 247 (0, [.ref 93, .int a1, .int a2, .int a3, .int a4, vU, vU, vU, vU], [], (zS I J tg)) r := by
  refine Runs.sN 7 (c' := (10, [.ref 93, .int a1, .int a2, .int a3, .int a4, .int (I 94 4), vU, vU, vU], [.int a1, .ref 93], (zS I J tg))) rfl ?_
  obtain ⟨v35, I36, J37, c38, h⟩ := h
  refine Runs.cl (cm := 242) (as := [.ref 93, .int a1]) (rest := []) (r1 := ((some (.int v35)), (zS I36 J37 tg))) rfl (Nat.le_of_ble_eq_true rfl) c38 ?_
  refine Runs.as (c' := (13, [.ref 93, .int a1, .int a2, .int a3, .int a4, .int (I 94 4), vU, vU, vU], [.int v35], (zS I36 J37 tg))) rfl ?_
  refine Runs.sN 3 (c' := (18, [.ref 93, .int a1, .int a2, .int a3, .int a4, .int (I 94 4), .int v35, .int 0, vU], [], (zS I36 J37 tg))) rfl ?_
  exact h
theorem sg_247_18 {L d : Nat} {xs : Nat → Int32} (I : Nat → Nat → Int32) (J : Nat → Nat → Int64) (tg : Option Nat) (x1 : Int32) (x2 : Int32) (x3 : Int32) (x4 : Int32) (x5 : Int32) (x6 : Int32) (x7 : Int32) {r : Option Value × SS} (h : ((if x5 < 0 then (r = (some (.int 1), (zS I J tg))) else (¬ ((800 * x5) < 0 ∨ 3200 ≤ (800 * x5).toNatClampNeg) ∧ (if (I 96 ((800 * x5).toNatClampNeg)) ≤ x7 then (r = (some (.int 1), (zS I J tg))) else (¬ ((((800 * x5) + 1) + (3 * x7)) < 0 ∨ 3200 ≤ (((800 * x5) + 1) + (3 * x7)).toNatClampNeg) ∧ (if (I 96 ((((800 * x5) + 1) + (3 * x7)).toNatClampNeg)) = 3 then (∃ (I1 : Nat → Nat → Int32) (J2 : Nat → Nat → Int64), Runs (GW L xs) d 240 (0, [.ref 93, .int x1, vU], [], (zS I J tg)) (none, (zS I1 J2 tg)) ∧ (if 0 ≤ x2 then (Runs (GW L xs) (d + 1) 247 (91, [.ref 93, .int x1, .int x2, .int x3, .int x4, .int x5, .int x6, .int x7, .int (((800 * x5) + 1) + (3 * x7))], [.int (x2 - 12), .int 8, .ref 103], (zS I1 J2 tg)) r) else (Runs (GW L xs) (d + 1) 247 (91, [.ref 93, .int x1, .int x2, .int x3, .int x4, .int x5, .int x6, .int x7, .int (((800 * x5) + 1) + (3 * x7))], [.int (-1), .int 8, .ref 103], (zS I1 J2 tg)) r))) else (Runs (GW L xs) (d + 1) 247 (18, [.ref 93, .int x1, .int x2, .int x3, .int x4, .int x5, .int x6, .int (x7 + 1), vU], [], (zS I J tg)) r)))))))) : Runs (GW L xs) (d + 1) 247 (18, [.ref 93, .int x1, .int x2, .int x3, .int x4, .int x5, .int x6, .int x7, vU], [], (zS I J tg)) r := by
  refine Runs.sN 1 (c' := (20, [.ref 93, .int x1, .int x2, .int x3, .int x4, .int x5, .int x6, .int x7, vU], [.int x5], (zS I J tg))) rfl ?_
  by_cases c3 : x5 < 0
  · rw [if_pos c3] at h
    refine Runs.brT (P := x5 < 0) (a := 194) (b := 23) (L := [.ref 93, .int x1, .int x2, .int x3, .int x4, .int x5, .int x6, .int x7, vU]) (S := []) (z := (zS I J tg)) rfl c3 ?_
    refine Runs.sN 1 (c' := (195, [.ref 93, .int x1, .int x2, .int x3, .int x4, .int x5, .int x6, .int x7, vU], [.int 1], (zS I J tg))) rfl ?_
    subst h
    exact Runs.rt rfl
  · rw [if_neg c3] at h
    refine Runs.brF (P := x5 < 0) (a := 194) (b := 23) (L := [.ref 93, .int x1, .int x2, .int x3, .int x4, .int x5, .int x6, .int x7, vU]) (S := []) (z := (zS I J tg)) rfl c3 ?_
    refine Runs.sN 6 (c' := (35, [.ref 93, .int x1, .int x2, .int x3, .int x4, .int x5, .int x6, .int x7, vU], [.int (800 * x5), .ref 96, .int x7], (zS I J tg))) rfl ?_
    obtain ⟨c4, h⟩ := h
    refine Runs.to (c' := (36, [.ref 93, .int x1, .int x2, .int x3, .int x4, .int x5, .int x6, .int x7, vU], [.int (I 96 ((800 * x5).toNatClampNeg)), .int x7], (zS I J tg))) (Runs.ild rfl (show (96 : Nat) < 114 by decide) rfl c4) ?_
    by_cases c5 : (I 96 ((800 * x5).toNatClampNeg)) ≤ x7
    · rw [if_pos c5] at h
      refine Runs.brT (P := (I 96 ((800 * x5).toNatClampNeg)) ≤ x7) (a := 194) (b := 39) (L := [.ref 93, .int x1, .int x2, .int x3, .int x4, .int x5, .int x6, .int x7, vU]) (S := []) (z := (zS I J tg)) rfl c5 ?_
      refine Runs.sN 1 (c' := (195, [.ref 93, .int x1, .int x2, .int x3, .int x4, .int x5, .int x6, .int x7, vU], [.int 1], (zS I J tg))) rfl ?_
      subst h
      exact Runs.rt rfl
    · rw [if_neg c5] at h
      refine Runs.brF (P := (I 96 ((800 * x5).toNatClampNeg)) ≤ x7) (a := 194) (b := 39) (L := [.ref 93, .int x1, .int x2, .int x3, .int x4, .int x5, .int x6, .int x7, vU]) (S := []) (z := (zS I J tg)) rfl c5 ?_
      refine Runs.sN 13 (c' := (60, [.ref 93, .int x1, .int x2, .int x3, .int x4, .int x5, .int x6, .int x7, .int (((800 * x5) + 1) + (3 * x7))], [.int (((800 * x5) + 1) + (3 * x7)), .ref 96], (zS I J tg))) rfl ?_
      obtain ⟨c6, h⟩ := h
      refine Runs.to (c' := (61, [.ref 93, .int x1, .int x2, .int x3, .int x4, .int x5, .int x6, .int x7, .int (((800 * x5) + 1) + (3 * x7))], [.int (I 96 ((((800 * x5) + 1) + (3 * x7)).toNatClampNeg))], (zS I J tg))) (Runs.ild rfl (show (96 : Nat) < 114 by decide) rfl c6) ?_
      refine Runs.sN 1 (c' := (62, [.ref 93, .int x1, .int x2, .int x3, .int x4, .int x5, .int x6, .int x7, .int (((800 * x5) + 1) + (3 * x7))], [.int 3, .int (I 96 ((((800 * x5) + 1) + (3 * x7)).toNatClampNeg))], (zS I J tg))) rfl ?_
      by_cases c7 : (I 96 ((((800 * x5) + 1) + (3 * x7)).toNatClampNeg)) = 3
      · rw [if_pos c7] at h
        refine Runs.brT (P := (I 96 ((((800 * x5) + 1) + (3 * x7)).toNatClampNeg)) = 3) (a := 68) (b := 65) (L := [.ref 93, .int x1, .int x2, .int x3, .int x4, .int x5, .int x6, .int x7, .int (((800 * x5) + 1) + (3 * x7))]) (S := []) (z := (zS I J tg)) rfl c7 ?_
        refine Runs.sN 2 (c' := (70, [.ref 93, .int x1, .int x2, .int x3, .int x4, .int x5, .int x6, .int x7, .int (((800 * x5) + 1) + (3 * x7))], [.int x1, .ref 93], (zS I J tg))) rfl ?_
        obtain ⟨I1, J2, c8, h⟩ := h
        refine Runs.cl (cm := 240) (as := [.ref 93, .int x1]) (rest := []) (r1 := (none, (zS I1 J2 tg))) rfl (Nat.le_of_ble_eq_true rfl) c8 ?_
        refine Runs.as (c' := (73, [.ref 93, .int x1, .int x2, .int x3, .int x4, .int x5, .int x6, .int x7, .int (((800 * x5) + 1) + (3 * x7))], [], (zS I1 J2 tg))) rfl ?_
        refine Runs.sN 4 (c' := (80, [.ref 93, .int x1, .int x2, .int x3, .int x4, .int x5, .int x6, .int x7, .int (((800 * x5) + 1) + (3 * x7))], [.int x2, .int 8, .ref 103], (zS I1 J2 tg))) rfl ?_
        by_cases c9 : 0 ≤ x2
        · rw [if_pos c9] at h
          refine Runs.brT (P := 0 ≤ x2) (a := 87) (b := 83) (L := [.ref 93, .int x1, .int x2, .int x3, .int x4, .int x5, .int x6, .int x7, .int (((800 * x5) + 1) + (3 * x7))]) (S := [.int 8, .ref 103]) (z := (zS I1 J2 tg)) rfl c9 ?_
          refine Runs.sN 3 (c' := (91, [.ref 93, .int x1, .int x2, .int x3, .int x4, .int x5, .int x6, .int x7, .int (((800 * x5) + 1) + (3 * x7))], [.int (x2 - 12), .int 8, .ref 103], (zS I1 J2 tg))) rfl ?_
          exact h
        · rw [if_neg c9] at h
          refine Runs.brF (P := 0 ≤ x2) (a := 87) (b := 83) (L := [.ref 93, .int x1, .int x2, .int x3, .int x4, .int x5, .int x6, .int x7, .int (((800 * x5) + 1) + (3 * x7))]) (S := [.int 8, .ref 103]) (z := (zS I1 J2 tg)) rfl c9 ?_
          refine Runs.sN 2 (c' := (91, [.ref 93, .int x1, .int x2, .int x3, .int x4, .int x5, .int x6, .int x7, .int (((800 * x5) + 1) + (3 * x7))], [.int (-1), .int 8, .ref 103], (zS I1 J2 tg))) rfl ?_
          exact h
      · rw [if_neg c7] at h
        refine Runs.brF (P := (I 96 ((((800 * x5) + 1) + (3 * x7)).toNatClampNeg)) = 3) (a := 68) (b := 65) (L := [.ref 93, .int x1, .int x2, .int x3, .int x4, .int x5, .int x6, .int x7, .int (((800 * x5) + 1) + (3 * x7))]) (S := []) (z := (zS I J tg)) rfl c7 ?_
        refine Runs.sN 3 (c' := (18, [.ref 93, .int x1, .int x2, .int x3, .int x4, .int x5, .int x6, .int (x7 + 1), .int (((800 * x5) + 1) + (3 * x7))], [], (zS I J tg))) rfl ?_
        exact Runs.weak (L := [.ref 93, .int x1, .int x2, .int x3, .int x4, .int x5, .int x6, .int (x7 + 1), vU]) (Lle.k (Lle.k (Lle.k (Lle.k (Lle.k (Lle.k (Lle.k (Lle.k (Lle.u Lle.n))))))))) h
theorem sg_247_91 {L d : Nat} {xs : Nat → Int32} (I : Nat → Nat → Int32) (J : Nat → Nat → Int64) (tg : Option Nat) (x1 : Int32) (x2 : Int32) (x3 : Int32) (x4 : Int32) (x5 : Int32) (x6 : Int32) (x7 : Int32) (x8 : Int32) (y1 : Int32) (y2 : Int32) {r : Option Value × SS} (h : (¬ (y1 < 0 ∨ 12 ≤ (y1).toNatClampNeg) ∧ ∃ (v1 : Int32) (I2 : Nat → Nat → Int32) (J3 : Nat → Nat → Int64), Runs (GW L xs) d 184 (0, [.ref 93, .int x1, .int 3], [], (zS (up2 I 103 ((y1).toNatClampNeg) y2) J tg)) ((some (.int v1)), (zS I2 J3 tg)) ∧ (if v1 = 1 then (Runs (GW L xs) (d + 1) 247 (115, [.ref 93, .int x1, .int x2, .int x3, .int x4, .int x5, .int x6, .int x7, .int x8], [.int 1, .int x6, .int 9, .ref 103], (zS I2 J3 tg)) r) else (Runs (GW L xs) (d + 1) 247 (115, [.ref 93, .int x1, .int x2, .int x3, .int x4, .int x5, .int x6, .int x7, .int x8], [.int 0, .int x6, .int 9, .ref 103], (zS I2 J3 tg)) r)))) : Runs (GW L xs) (d + 1) 247 (91, [.ref 93, .int x1, .int x2, .int x3, .int x4, .int x5, .int x6, .int x7, .int x8], [.int y2, .int y1, .ref 103], (zS I J tg)) r := by
  obtain ⟨c4, h⟩ := h
  refine Runs.to (c' := (92, [.ref 93, .int x1, .int x2, .int x3, .int x4, .int x5, .int x6, .int x7, .int x8], [], (zS (up2 I 103 ((y1).toNatClampNeg) y2) J tg))) (Runs.ist rfl (show (103 : Nat) < 114 by decide) rfl c4) ?_
  refine Runs.sN 7 (c' := (103, [.ref 93, .int x1, .int x2, .int x3, .int x4, .int x5, .int x6, .int x7, .int x8], [.int 3, .int x1, .ref 93, .int x6, .int 9, .ref 103], (zS (up2 I 103 ((y1).toNatClampNeg) y2) J tg))) rfl ?_
  obtain ⟨v1, I2, J3, c5, h⟩ := h
  refine Runs.cl (cm := 184) (as := [.ref 93, .int x1, .int 3]) (rest := [.int x6, .int 9, .ref 103]) (r1 := ((some (.int v1)), (zS I2 J3 tg))) rfl (Nat.le_of_ble_eq_true rfl) c5 ?_
  refine Runs.as (c' := (106, [.ref 93, .int x1, .int x2, .int x3, .int x4, .int x5, .int x6, .int x7, .int x8], [.int v1, .int x6, .int 9, .ref 103], (zS I2 J3 tg))) rfl ?_
  refine Runs.sN 1 (c' := (107, [.ref 93, .int x1, .int x2, .int x3, .int x4, .int x5, .int x6, .int x7, .int x8], [.int 1, .int v1, .int x6, .int 9, .ref 103], (zS I2 J3 tg))) rfl ?_
  by_cases c6 : v1 = 1
  · rw [if_pos c6] at h
    refine Runs.brT (P := v1 = 1) (a := 110) (b := 114) (L := [.ref 93, .int x1, .int x2, .int x3, .int x4, .int x5, .int x6, .int x7, .int x8]) (S := [.int x6, .int 9, .ref 103]) (z := (zS I2 J3 tg)) rfl c6 ?_
    refine Runs.sN 2 (c' := (115, [.ref 93, .int x1, .int x2, .int x3, .int x4, .int x5, .int x6, .int x7, .int x8], [.int 1, .int x6, .int 9, .ref 103], (zS I2 J3 tg))) rfl ?_
    exact h
  · rw [if_neg c6] at h
    refine Runs.brF (P := v1 = 1) (a := 110) (b := 114) (L := [.ref 93, .int x1, .int x2, .int x3, .int x4, .int x5, .int x6, .int x7, .int x8]) (S := [.int x6, .int 9, .ref 103]) (z := (zS I2 J3 tg)) rfl c6 ?_
    refine Runs.sN 1 (c' := (115, [.ref 93, .int x1, .int x2, .int x3, .int x4, .int x5, .int x6, .int x7, .int x8], [.int 0, .int x6, .int 9, .ref 103], (zS I2 J3 tg))) rfl ?_
    exact h
theorem sg_247_115 {L d : Nat} {xs : Nat → Int32} (I : Nat → Nat → Int32) (J : Nat → Nat → Int64) (tg : Option Nat) (x1 : Int32) (x2 : Int32) (x3 : Int32) (x4 : Int32) (x5 : Int32) (x6 : Int32) (x7 : Int32) (x8 : Int32) (y1 : Int32) (y2 : Int32) (y3 : Int32) {r : Option Value × SS} (h : ((if y2 = y3 then (Runs (GW L xs) (d + 1) 247 (123, [.ref 93, .int x1, .int x2, .int x3, .int x4, .int x5, .int x6, .int x7, .int x8], [.int 0, .int y1, .ref 103], (zS I J tg)) r) else (Runs (GW L xs) (d + 1) 247 (123, [.ref 93, .int x1, .int x2, .int x3, .int x4, .int x5, .int x6, .int x7, .int x8], [.int 1, .int y1, .ref 103], (zS I J tg)) r)))) : Runs (GW L xs) (d + 1) 247 (115, [.ref 93, .int x1, .int x2, .int x3, .int x4, .int x5, .int x6, .int x7, .int x8], [.int y3, .int y2, .int y1, .ref 103], (zS I J tg)) r := by
  by_cases c1 : y2 = y3
  · rw [if_pos c1] at h
    refine Runs.brT (P := y2 = y3) (a := 122) (b := 118) (L := [.ref 93, .int x1, .int x2, .int x3, .int x4, .int x5, .int x6, .int x7, .int x8]) (S := [.int y1, .ref 103]) (z := (zS I J tg)) rfl c1 ?_
    refine Runs.sN 1 (c' := (123, [.ref 93, .int x1, .int x2, .int x3, .int x4, .int x5, .int x6, .int x7, .int x8], [.int 0, .int y1, .ref 103], (zS I J tg))) rfl ?_
    exact h
  · rw [if_neg c1] at h
    refine Runs.brF (P := y2 = y3) (a := 122) (b := 118) (L := [.ref 93, .int x1, .int x2, .int x3, .int x4, .int x5, .int x6, .int x7, .int x8]) (S := [.int y1, .ref 103]) (z := (zS I J tg)) rfl c1 ?_
    refine Runs.sN 2 (c' := (123, [.ref 93, .int x1, .int x2, .int x3, .int x4, .int x5, .int x6, .int x7, .int x8], [.int 1, .int y1, .ref 103], (zS I J tg))) rfl ?_
    exact h
theorem sg_247_123 {L d : Nat} {xs : Nat → Int32} (I : Nat → Nat → Int32) (J : Nat → Nat → Int64) (tg : Option Nat) (x1 : Int32) (x2 : Int32) (x3 : Int32) (x4 : Int32) (x5 : Int32) (x6 : Int32) (x7 : Int32) (x8 : Int32) (y1 : Int32) (y2 : Int32) {r : Option Value × SS} (h : (¬ (y1 < 0 ∨ 12 ≤ (y1).toNatClampNeg) ∧ ¬ ((x8 + 1) < 0 ∨ 3200 ≤ (x8 + 1).toNatClampNeg) ∧ ¬ ((x8 + 2) < 0 ∨ 3200 ≤ (x8 + 2).toNatClampNeg) ∧ ∃ (I1 : Nat → Nat → Int32) (J2 : Nat → Nat → Int64), Runs (GW L xs) d 239 (0, [.ref 93, .int x5, .int (I 96 ((x8 + 1).toNatClampNeg)), .int (I 96 ((x8 + 2).toNatClampNeg)), vU, vU, vU, vU, vU, vU], [], (zS (up2 (up2 (up2 I 103 ((y1).toNatClampNeg) y2) 103 10 x3) 103 11 x4) J tg)) (none, (zS I1 J2 tg)) ∧ (if 0 ≤ (lg_cmp (J2 104 0) 0) then (r = (some (.int (Int64.toInt32 (J2 104 0))), (zS I1 J2 tg))) else (r = (some (.int 0), (zS I1 J2 tg)))))) : Runs (GW L xs) (d + 1) 247 (123, [.ref 93, .int x1, .int x2, .int x3, .int x4, .int x5, .int x6, .int x7, .int x8], [.int y2, .int y1, .ref 103], (zS I J tg)) r := by
  obtain ⟨c3, h⟩ := h
  refine Runs.to (c' := (124, [.ref 93, .int x1, .int x2, .int x3, .int x4, .int x5, .int x6, .int x7, .int x8], [], (zS (up2 I 103 ((y1).toNatClampNeg) y2) J tg))) (Runs.ist rfl (show (103 : Nat) < 114 by decide) rfl c3) ?_
  refine Runs.sN 17 (c' := (152, [.ref 93, .int x1, .int x2, .int x3, .int x4, .int x5, .int x6, .int x7, .int x8], [.int (x8 + 1), .ref 96, .int x5, .ref 93], (zS (up2 (up2 (up2 I 103 ((y1).toNatClampNeg) y2) 103 10 x3) 103 11 x4) J tg))) rfl ?_
  obtain ⟨c4, h⟩ := h
  refine Runs.to (c' := (153, [.ref 93, .int x1, .int x2, .int x3, .int x4, .int x5, .int x6, .int x7, .int x8], [.int (I 96 ((x8 + 1).toNatClampNeg)), .int x5, .ref 93], (zS (up2 (up2 (up2 I 103 ((y1).toNatClampNeg) y2) 103 10 x3) 103 11 x4) J tg))) (Runs.ild rfl (show (96 : Nat) < 114 by decide) rfl c4) ?_
  refine Runs.sN 5 (c' := (161, [.ref 93, .int x1, .int x2, .int x3, .int x4, .int x5, .int x6, .int x7, .int x8], [.int (x8 + 2), .ref 96, .int (I 96 ((x8 + 1).toNatClampNeg)), .int x5, .ref 93], (zS (up2 (up2 (up2 I 103 ((y1).toNatClampNeg) y2) 103 10 x3) 103 11 x4) J tg))) rfl ?_
  obtain ⟨c5, h⟩ := h
  refine Runs.to (c' := (162, [.ref 93, .int x1, .int x2, .int x3, .int x4, .int x5, .int x6, .int x7, .int x8], [.int (I 96 ((x8 + 2).toNatClampNeg)), .int (I 96 ((x8 + 1).toNatClampNeg)), .int x5, .ref 93], (zS (up2 (up2 (up2 I 103 ((y1).toNatClampNeg) y2) 103 10 x3) 103 11 x4) J tg))) (Runs.ild rfl (show (96 : Nat) < 114 by decide) rfl c5) ?_
  obtain ⟨I1, J2, c6, h⟩ := h
  refine Runs.cl (cm := 239) (as := [.ref 93, .int x5, .int (I 96 ((x8 + 1).toNatClampNeg)), .int (I 96 ((x8 + 2).toNatClampNeg))]) (rest := []) (r1 := (none, (zS I1 J2 tg))) rfl (Nat.le_of_ble_eq_true rfl) c6 ?_
  refine Runs.as (c' := (165, [.ref 93, .int x1, .int x2, .int x3, .int x4, .int x5, .int x6, .int x7, .int x8], [], (zS I1 J2 tg))) rfl ?_
  refine Runs.sN 6 (c' := (173, [.ref 93, .int x1, .int x2, .int x3, .int x4, .int x5, .int x6, .int x7, .int x8], [.int (lg_cmp (J2 104 0) 0)], (zS I1 J2 tg))) rfl ?_
  by_cases c7 : 0 ≤ (lg_cmp (J2 104 0) 0)
  · rw [if_pos c7] at h
    refine Runs.brT (P := 0 ≤ (lg_cmp (J2 104 0) 0)) (a := 180) (b := 176) (L := [.ref 93, .int x1, .int x2, .int x3, .int x4, .int x5, .int x6, .int x7, .int x8]) (S := []) (z := (zS I1 J2 tg)) rfl c7 ?_
    refine Runs.sN 5 (c' := (187, [.ref 93, .int x1, .int x2, .int x3, .int x4, .int x5, .int x6, .int x7, .int x8], [.int (Int64.toInt32 (J2 104 0))], (zS I1 J2 tg))) rfl ?_
    subst h
    exact Runs.rt rfl
  · rw [if_neg c7] at h
    refine Runs.brF (P := 0 ≤ (lg_cmp (J2 104 0) 0)) (a := 180) (b := 176) (L := [.ref 93, .int x1, .int x2, .int x3, .int x4, .int x5, .int x6, .int x7, .int x8]) (S := []) (z := (zS I1 J2 tg)) rfl c7 ?_
    refine Runs.sN 2 (c' := (187, [.ref 93, .int x1, .int x2, .int x3, .int x4, .int x5, .int x6, .int x7, .int x8], [.int 0], (zS I1 J2 tg))) rfl ?_
    subst h
    exact Runs.rt rfl
-- X12_harmIn 
theorem sg_248 {L d : Nat} {xs : Nat → Int32} (I : Nat → Nat → Int32) (J : Nat → Nat → Int64) (tg : Option Nat) (a1 : Int32) (a2 : Int32) (a3 : Int32) (a4 : Int32) {r : Option Value × SS} (h : (∃ (v13 : Int32) (I14 : Nat → Nat → Int32) (J15 : Nat → Nat → Int64), Runs (GW L xs) d 205 (0, [.ref 93, .int a1, .int a3, .int a4], [], (zS I J tg)) ((some (.int v13)), (zS I14 J15 tg)) ∧ ∃ (v16 : Int32) (I17 : Nat → Nat → Int32) (J18 : Nat → Nat → Int64), Runs (GW L xs) d 246 (0, [.ref 93, .int a2, .int a3], [], (zS I14 J15 tg)) ((some (.int v16)), (zS I17 J18 tg)) ∧ (if v16 = 0 then (∃ (v19 : Int32) (I20 : Nat → Nat → Int32) (J21 : Nat → Nat → Int64), Runs (GW L xs) d 245 (0, [.ref 93, .int a1, .int v13], [], (zS I17 J18 tg)) ((some (.int v19)), (zS I20 J21 tg)) ∧ (if v19 = 0 then (∃ (v22 : Int32) (I23 : Nat → Nat → Int32) (J24 : Nat → Nat → Int64), Runs (GW L xs) d 247 (0, [.ref 93, .int a1, .int v13, .int a3, .int a4, vU, vU, vU, vU], [], (zS I20 J21 tg)) ((some (.int v22)), (zS I23 J24 tg)) ∧ r = (some (.int v22), (zS I23 J24 tg))) else (r = (some (.int 0), (zS I20 J21 tg))))) else (r = (some (.int 0), (zS I17 J18 tg)))))) : Runs (GW L xs) (d + 1) 248 (0, [.ref 93, .int a1, .int a2, .int a3, .int a4, vU], [], (zS I J tg)) r := by
  refine Runs.sN 4 (c' := (5, [.ref 93, .int a1, .int a2, .int a3, .int a4, vU], [.int a4, .int a3, .int a1, .ref 93], (zS I J tg))) rfl ?_
  obtain ⟨v13, I14, J15, c25, h⟩ := h
  refine Runs.cl (cm := 205) (as := [.ref 93, .int a1, .int a3, .int a4]) (rest := []) (r1 := ((some (.int v13)), (zS I14 J15 tg))) rfl (Nat.le_of_ble_eq_true rfl) c25 ?_
  refine Runs.as (c' := (8, [.ref 93, .int a1, .int a2, .int a3, .int a4, vU], [.int v13], (zS I14 J15 tg))) rfl ?_
  refine Runs.sN 4 (c' := (13, [.ref 93, .int a1, .int a2, .int a3, .int a4, .int v13], [.int a3, .int a2, .ref 93], (zS I14 J15 tg))) rfl ?_
  obtain ⟨v16, I17, J18, c26, h⟩ := h
  refine Runs.cl (cm := 246) (as := [.ref 93, .int a2, .int a3]) (rest := []) (r1 := ((some (.int v16)), (zS I17 J18 tg))) rfl (Nat.le_of_ble_eq_true rfl) c26 ?_
  refine Runs.as (c' := (16, [.ref 93, .int a1, .int a2, .int a3, .int a4, .int v13], [.int v16], (zS I17 J18 tg))) rfl ?_
  by_cases c27 : v16 = 0
  · rw [if_pos c27] at h
    refine Runs.brT (P := v16 = 0) (a := 19) (b := 29) (L := [.ref 93, .int a1, .int a2, .int a3, .int a4, .int v13]) (S := []) (z := (zS I17 J18 tg)) rfl c27 ?_
    refine Runs.sN 3 (c' := (23, [.ref 93, .int a1, .int a2, .int a3, .int a4, .int v13], [.int v13, .int a1, .ref 93], (zS I17 J18 tg))) rfl ?_
    obtain ⟨v19, I20, J21, c28, h⟩ := h
    refine Runs.cl (cm := 245) (as := [.ref 93, .int a1, .int v13]) (rest := []) (r1 := ((some (.int v19)), (zS I20 J21 tg))) rfl (Nat.le_of_ble_eq_true rfl) c28 ?_
    refine Runs.as (c' := (26, [.ref 93, .int a1, .int a2, .int a3, .int a4, .int v13], [.int v19], (zS I20 J21 tg))) rfl ?_
    by_cases c29 : v19 = 0
    · rw [if_pos c29] at h
      refine Runs.brT (P := v19 = 0) (a := 33) (b := 29) (L := [.ref 93, .int a1, .int a2, .int a3, .int a4, .int v13]) (S := []) (z := (zS I20 J21 tg)) rfl c29 ?_
      refine Runs.sN 5 (c' := (40, [.ref 93, .int a1, .int a2, .int a3, .int a4, .int v13], [.int a4, .int a3, .int v13, .int a1, .ref 93], (zS I20 J21 tg))) rfl ?_
      obtain ⟨v22, I23, J24, c30, h⟩ := h
      refine Runs.cl (cm := 247) (as := [.ref 93, .int a1, .int v13, .int a3, .int a4]) (rest := []) (r1 := ((some (.int v22)), (zS I23 J24 tg))) rfl (Nat.le_of_ble_eq_true rfl) c30 ?_
      refine Runs.as (c' := (43, [.ref 93, .int a1, .int a2, .int a3, .int a4, .int v13], [.int v22], (zS I23 J24 tg))) rfl ?_
      subst h
      exact Runs.rt rfl
    · rw [if_neg c29] at h
      refine Runs.brF (P := v19 = 0) (a := 33) (b := 29) (L := [.ref 93, .int a1, .int a2, .int a3, .int a4, .int v13]) (S := []) (z := (zS I20 J21 tg)) rfl c29 ?_
      refine Runs.sN 2 (c' := (43, [.ref 93, .int a1, .int a2, .int a3, .int a4, .int v13], [.int 0], (zS I20 J21 tg))) rfl ?_
      subst h
      exact Runs.rt rfl
  · rw [if_neg c27] at h
    refine Runs.brF (P := v16 = 0) (a := 19) (b := 29) (L := [.ref 93, .int a1, .int a2, .int a3, .int a4, .int v13]) (S := []) (z := (zS I17 J18 tg)) rfl c27 ?_
    refine Runs.sN 2 (c' := (43, [.ref 93, .int a1, .int a2, .int a3, .int a4, .int v13], [.int 0], (zS I17 J18 tg))) rfl ?_
    subst h
    exact Runs.rt rfl
-- X12_isRight 
theorem sg_249 {L d : Nat} {xs : Nat → Int32} (I : Nat → Nat → Int32) (J : Nat → Nat → Int64) (tg : Option Nat) (a1 : Int32) (a2 : Int32) (a3 : Int32) (a4 : Int32) {r : Option Value × SS} (h : (∃ (v10 : Int32) (I11 : Nat → Nat → Int32) (J12 : Nat → Nat → Int64), Runs (GW L xs) d 246 (0, [.ref 93, .int a2, .int a3], [], (zS I J tg)) ((some (.int v10)), (zS I11 J12 tg)) ∧ (if v10 = 0 then (∃ (v13 : Int32) (I14 : Nat → Nat → Int32) (J15 : Nat → Nat → Int64), Runs (GW L xs) d 205 (0, [.ref 93, .int a1, .int a3, .int a4], [], (zS I11 J12 tg)) ((some (.int v13)), (zS I14 J15 tg)) ∧ ∃ (v16 : Int32) (I17 : Nat → Nat → Int32) (J18 : Nat → Nat → Int64), Runs (GW L xs) d 245 (0, [.ref 93, .int a1, .int v13], [], (zS I14 J15 tg)) ((some (.int v16)), (zS I17 J18 tg)) ∧ (if v16 = 0 then (r = (some (.int 0), (zS I17 J18 tg))) else (r = (some (.int 1), (zS I17 J18 tg))))) else (r = (some (.int 1), (zS I11 J12 tg)))))) : Runs (GW L xs) (d + 1) 249 (0, [.ref 93, .int a1, .int a2, .int a3, .int a4], [], (zS I J tg)) r := by
  refine Runs.sN 3 (c' := (3, [.ref 93, .int a1, .int a2, .int a3, .int a4], [.int a3, .int a2, .ref 93], (zS I J tg))) rfl ?_
  obtain ⟨v10, I11, J12, c19, h⟩ := h
  refine Runs.cl (cm := 246) (as := [.ref 93, .int a2, .int a3]) (rest := []) (r1 := ((some (.int v10)), (zS I11 J12 tg))) rfl (Nat.le_of_ble_eq_true rfl) c19 ?_
  refine Runs.as (c' := (6, [.ref 93, .int a1, .int a2, .int a3, .int a4], [.int v10], (zS I11 J12 tg))) rfl ?_
  by_cases c20 : v10 = 0
  · rw [if_pos c20] at h
    refine Runs.brT (P := v10 = 0) (a := 9) (b := 25) (L := [.ref 93, .int a1, .int a2, .int a3, .int a4]) (S := []) (z := (zS I11 J12 tg)) rfl c20 ?_
    refine Runs.sN 6 (c' := (16, [.ref 93, .int a1, .int a2, .int a3, .int a4], [.int a4, .int a3, .int a1, .ref 93, .int a1, .ref 93], (zS I11 J12 tg))) rfl ?_
    obtain ⟨v13, I14, J15, c21, h⟩ := h
    refine Runs.cl (cm := 205) (as := [.ref 93, .int a1, .int a3, .int a4]) (rest := [.int a1, .ref 93]) (r1 := ((some (.int v13)), (zS I14 J15 tg))) rfl (Nat.le_of_ble_eq_true rfl) c21 ?_
    refine Runs.as (c' := (19, [.ref 93, .int a1, .int a2, .int a3, .int a4], [.int v13, .int a1, .ref 93], (zS I14 J15 tg))) rfl ?_
    obtain ⟨v16, I17, J18, c22, h⟩ := h
    refine Runs.cl (cm := 245) (as := [.ref 93, .int a1, .int v13]) (rest := []) (r1 := ((some (.int v16)), (zS I17 J18 tg))) rfl (Nat.le_of_ble_eq_true rfl) c22 ?_
    refine Runs.as (c' := (22, [.ref 93, .int a1, .int a2, .int a3, .int a4], [.int v16], (zS I17 J18 tg))) rfl ?_
    by_cases c23 : v16 = 0
    · rw [if_pos c23] at h
      refine Runs.brT (P := v16 = 0) (a := 29) (b := 25) (L := [.ref 93, .int a1, .int a2, .int a3, .int a4]) (S := []) (z := (zS I17 J18 tg)) rfl c23 ?_
      refine Runs.sN 1 (c' := (30, [.ref 93, .int a1, .int a2, .int a3, .int a4], [.int 0], (zS I17 J18 tg))) rfl ?_
      subst h
      exact Runs.rt rfl
    · rw [if_neg c23] at h
      refine Runs.brF (P := v16 = 0) (a := 29) (b := 25) (L := [.ref 93, .int a1, .int a2, .int a3, .int a4]) (S := []) (z := (zS I17 J18 tg)) rfl c23 ?_
      refine Runs.sN 2 (c' := (30, [.ref 93, .int a1, .int a2, .int a3, .int a4], [.int 1], (zS I17 J18 tg))) rfl ?_
      subst h
      exact Runs.rt rfl
  · rw [if_neg c20] at h
    refine Runs.brF (P := v10 = 0) (a := 9) (b := 25) (L := [.ref 93, .int a1, .int a2, .int a3, .int a4]) (S := []) (z := (zS I11 J12 tg)) rfl c20 ?_
    refine Runs.sN 2 (c' := (30, [.ref 93, .int a1, .int a2, .int a3, .int a4], [.int 1], (zS I11 J12 tg))) rfl ?_
    subst h
    exact Runs.rt rfl
-- X12_right 
theorem sg_250 {L d : Nat} {xs : Nat → Int32} (I : Nat → Nat → Int32) (J : Nat → Nat → Int64) (tg : Option Nat) (a1 : Int32) (a2 : Int32) (a3 : Int32) {r : Option Value × SS} (h : (∃ (v13 : Int32) (I14 : Nat → Nat → Int32) (J15 : Nat → Nat → Int64), Runs (GW L xs) d 179 (0, [.ref 93, .int a1], [], (zS I J tg)) ((some (.int v13)), (zS I14 J15 tg)) ∧ (if v13 = 0 then (r = (some (.int (-1)), (zS I14 J15 tg))) else (∃ (v16 : Int32) (I17 : Nat → Nat → Int32) (J18 : Nat → Nat → Int64), Runs (GW L xs) d 182 (0, [.int a2], [], (zS I14 J15 tg)) ((some (.int v16)), (zS I17 J18 tg)) ∧ (if v16 = 0 then (r = (some (.int (-1)), (zS I17 J18 tg))) else (∃ (v19 : Int32) (I20 : Nat → Nat → Int32) (J21 : Nat → Nat → Int64), Runs (GW L xs) d 182 (0, [.int a3], [], (zS I17 J18 tg)) ((some (.int v19)), (zS I20 J21 tg)) ∧ (if v19 = 0 then (r = (some (.int (-1)), (zS I20 J21 tg))) else (∃ (v22 : Int32) (I23 : Nat → Nat → Int32) (J24 : Nat → Nat → Int64), Runs (GW L xs) d 249 (0, [.ref 93, .int a1, .int a1, .int a2, .int a3], [], (zS I20 J21 tg)) ((some (.int v22)), (zS I23 J24 tg)) ∧ (if v22 = 0 then (r = (some (.int 0), (zS I23 J24 tg))) else (r = (some (.int 1), (zS I23 J24 tg)))))))))))) : Runs (GW L xs) (d + 1) 250 (0, [.ref 93, .int a1, .int a2, .int a3], [], (zS I J tg)) r := by
  refine Runs.sN 2 (c' := (2, [.ref 93, .int a1, .int a2, .int a3], [.int a1, .ref 93], (zS I J tg))) rfl ?_
  obtain ⟨v13, I14, J15, c25, h⟩ := h
  refine Runs.cl (cm := 179) (as := [.ref 93, .int a1]) (rest := []) (r1 := ((some (.int v13)), (zS I14 J15 tg))) rfl (Nat.le_of_ble_eq_true rfl) c25 ?_
  refine Runs.as (c' := (5, [.ref 93, .int a1, .int a2, .int a3], [.int v13], (zS I14 J15 tg))) rfl ?_
  by_cases c26 : v13 = 0
  · rw [if_pos c26] at h
    refine Runs.brT (P := v13 = 0) (a := 41) (b := 8) (L := [.ref 93, .int a1, .int a2, .int a3]) (S := []) (z := (zS I14 J15 tg)) rfl c26 ?_
    refine Runs.sN 1 (c' := (42, [.ref 93, .int a1, .int a2, .int a3], [.int (-1)], (zS I14 J15 tg))) rfl ?_
    subst h
    exact Runs.rt rfl
  · rw [if_neg c26] at h
    refine Runs.brF (P := v13 = 0) (a := 41) (b := 8) (L := [.ref 93, .int a1, .int a2, .int a3]) (S := []) (z := (zS I14 J15 tg)) rfl c26 ?_
    refine Runs.sN 1 (c' := (9, [.ref 93, .int a1, .int a2, .int a3], [.int a2], (zS I14 J15 tg))) rfl ?_
    obtain ⟨v16, I17, J18, c27, h⟩ := h
    refine Runs.cl (cm := 182) (as := [.int a2]) (rest := []) (r1 := ((some (.int v16)), (zS I17 J18 tg))) rfl (Nat.le_of_ble_eq_true rfl) c27 ?_
    refine Runs.as (c' := (12, [.ref 93, .int a1, .int a2, .int a3], [.int v16], (zS I17 J18 tg))) rfl ?_
    by_cases c28 : v16 = 0
    · rw [if_pos c28] at h
      refine Runs.brT (P := v16 = 0) (a := 41) (b := 15) (L := [.ref 93, .int a1, .int a2, .int a3]) (S := []) (z := (zS I17 J18 tg)) rfl c28 ?_
      refine Runs.sN 1 (c' := (42, [.ref 93, .int a1, .int a2, .int a3], [.int (-1)], (zS I17 J18 tg))) rfl ?_
      subst h
      exact Runs.rt rfl
    · rw [if_neg c28] at h
      refine Runs.brF (P := v16 = 0) (a := 41) (b := 15) (L := [.ref 93, .int a1, .int a2, .int a3]) (S := []) (z := (zS I17 J18 tg)) rfl c28 ?_
      refine Runs.sN 1 (c' := (16, [.ref 93, .int a1, .int a2, .int a3], [.int a3], (zS I17 J18 tg))) rfl ?_
      obtain ⟨v19, I20, J21, c29, h⟩ := h
      refine Runs.cl (cm := 182) (as := [.int a3]) (rest := []) (r1 := ((some (.int v19)), (zS I20 J21 tg))) rfl (Nat.le_of_ble_eq_true rfl) c29 ?_
      refine Runs.as (c' := (19, [.ref 93, .int a1, .int a2, .int a3], [.int v19], (zS I20 J21 tg))) rfl ?_
      by_cases c30 : v19 = 0
      · rw [if_pos c30] at h
        refine Runs.brT (P := v19 = 0) (a := 41) (b := 22) (L := [.ref 93, .int a1, .int a2, .int a3]) (S := []) (z := (zS I20 J21 tg)) rfl c30 ?_
        refine Runs.sN 1 (c' := (42, [.ref 93, .int a1, .int a2, .int a3], [.int (-1)], (zS I20 J21 tg))) rfl ?_
        subst h
        exact Runs.rt rfl
      · rw [if_neg c30] at h
        refine Runs.brF (P := v19 = 0) (a := 41) (b := 22) (L := [.ref 93, .int a1, .int a2, .int a3]) (S := []) (z := (zS I20 J21 tg)) rfl c30 ?_
        refine Runs.sN 5 (c' := (27, [.ref 93, .int a1, .int a2, .int a3], [.int a3, .int a2, .int a1, .int a1, .ref 93], (zS I20 J21 tg))) rfl ?_
        obtain ⟨v22, I23, J24, c31, h⟩ := h
        refine Runs.cl (cm := 249) (as := [.ref 93, .int a1, .int a1, .int a2, .int a3]) (rest := []) (r1 := ((some (.int v22)), (zS I23 J24 tg))) rfl (Nat.le_of_ble_eq_true rfl) c31 ?_
        refine Runs.as (c' := (30, [.ref 93, .int a1, .int a2, .int a3], [.int v22], (zS I23 J24 tg))) rfl ?_
        by_cases c32 : v22 = 0
        · rw [if_pos c32] at h
          refine Runs.brT (P := v22 = 0) (a := 37) (b := 33) (L := [.ref 93, .int a1, .int a2, .int a3]) (S := []) (z := (zS I23 J24 tg)) rfl c32 ?_
          refine Runs.sN 2 (c' := (42, [.ref 93, .int a1, .int a2, .int a3], [.int 0], (zS I23 J24 tg))) rfl ?_
          subst h
          exact Runs.rt rfl
        · rw [if_neg c32] at h
          refine Runs.brF (P := v22 = 0) (a := 37) (b := 33) (L := [.ref 93, .int a1, .int a2, .int a3]) (S := []) (z := (zS I23 J24 tg)) rfl c32 ?_
          refine Runs.sN 2 (c' := (42, [.ref 93, .int a1, .int a2, .int a3], [.int 1], (zS I23 J24 tg))) rfl ?_
          subst h
          exact Runs.rt rfl
-- X12_harm 
theorem sg_251 {L d : Nat} {xs : Nat → Int32} (I : Nat → Nat → Int32) (J : Nat → Nat → Int64) (tg : Option Nat) (a1 : Int32) (a2 : Int32) (a3 : Int32) {r : Option Value × SS} (h : (∃ (v13 : Int32) (I14 : Nat → Nat → Int32) (J15 : Nat → Nat → Int64), Runs (GW L xs) d 179 (0, [.ref 93, .int a1], [], (zS I J tg)) ((some (.int v13)), (zS I14 J15 tg)) ∧ (if v13 = 0 then (r = (some (.int (-1)), (zS I14 J15 tg))) else (∃ (v16 : Int32) (I17 : Nat → Nat → Int32) (J18 : Nat → Nat → Int64), Runs (GW L xs) d 182 (0, [.int a2], [], (zS I14 J15 tg)) ((some (.int v16)), (zS I17 J18 tg)) ∧ (if v16 = 0 then (r = (some (.int (-1)), (zS I17 J18 tg))) else (∃ (v19 : Int32) (I20 : Nat → Nat → Int32) (J21 : Nat → Nat → Int64), Runs (GW L xs) d 182 (0, [.int a3], [], (zS I17 J18 tg)) ((some (.int v19)), (zS I20 J21 tg)) ∧ (if v19 = 0 then (r = (some (.int (-1)), (zS I20 J21 tg))) else (∃ (v22 : Int32) (I23 : Nat → Nat → Int32) (J24 : Nat → Nat → Int64), Runs (GW L xs) d 248 (0, [.ref 93, .int a1, .int a1, .int a2, .int a3, vU], [], (zS I20 J21 tg)) ((some (.int v22)), (zS I23 J24 tg)) ∧ r = (some (.int v22), (zS I23 J24 tg)))))))))) : Runs (GW L xs) (d + 1) 251 (0, [.ref 93, .int a1, .int a2, .int a3], [], (zS I J tg)) r := by
  refine Runs.sN 2 (c' := (2, [.ref 93, .int a1, .int a2, .int a3], [.int a1, .ref 93], (zS I J tg))) rfl ?_
  obtain ⟨v13, I14, J15, c25, h⟩ := h
  refine Runs.cl (cm := 179) (as := [.ref 93, .int a1]) (rest := []) (r1 := ((some (.int v13)), (zS I14 J15 tg))) rfl (Nat.le_of_ble_eq_true rfl) c25 ?_
  refine Runs.as (c' := (5, [.ref 93, .int a1, .int a2, .int a3], [.int v13], (zS I14 J15 tg))) rfl ?_
  by_cases c26 : v13 = 0
  · rw [if_pos c26] at h
    refine Runs.brT (P := v13 = 0) (a := 33) (b := 8) (L := [.ref 93, .int a1, .int a2, .int a3]) (S := []) (z := (zS I14 J15 tg)) rfl c26 ?_
    refine Runs.sN 1 (c' := (34, [.ref 93, .int a1, .int a2, .int a3], [.int (-1)], (zS I14 J15 tg))) rfl ?_
    subst h
    exact Runs.rt rfl
  · rw [if_neg c26] at h
    refine Runs.brF (P := v13 = 0) (a := 33) (b := 8) (L := [.ref 93, .int a1, .int a2, .int a3]) (S := []) (z := (zS I14 J15 tg)) rfl c26 ?_
    refine Runs.sN 1 (c' := (9, [.ref 93, .int a1, .int a2, .int a3], [.int a2], (zS I14 J15 tg))) rfl ?_
    obtain ⟨v16, I17, J18, c27, h⟩ := h
    refine Runs.cl (cm := 182) (as := [.int a2]) (rest := []) (r1 := ((some (.int v16)), (zS I17 J18 tg))) rfl (Nat.le_of_ble_eq_true rfl) c27 ?_
    refine Runs.as (c' := (12, [.ref 93, .int a1, .int a2, .int a3], [.int v16], (zS I17 J18 tg))) rfl ?_
    by_cases c28 : v16 = 0
    · rw [if_pos c28] at h
      refine Runs.brT (P := v16 = 0) (a := 33) (b := 15) (L := [.ref 93, .int a1, .int a2, .int a3]) (S := []) (z := (zS I17 J18 tg)) rfl c28 ?_
      refine Runs.sN 1 (c' := (34, [.ref 93, .int a1, .int a2, .int a3], [.int (-1)], (zS I17 J18 tg))) rfl ?_
      subst h
      exact Runs.rt rfl
    · rw [if_neg c28] at h
      refine Runs.brF (P := v16 = 0) (a := 33) (b := 15) (L := [.ref 93, .int a1, .int a2, .int a3]) (S := []) (z := (zS I17 J18 tg)) rfl c28 ?_
      refine Runs.sN 1 (c' := (16, [.ref 93, .int a1, .int a2, .int a3], [.int a3], (zS I17 J18 tg))) rfl ?_
      obtain ⟨v19, I20, J21, c29, h⟩ := h
      refine Runs.cl (cm := 182) (as := [.int a3]) (rest := []) (r1 := ((some (.int v19)), (zS I20 J21 tg))) rfl (Nat.le_of_ble_eq_true rfl) c29 ?_
      refine Runs.as (c' := (19, [.ref 93, .int a1, .int a2, .int a3], [.int v19], (zS I20 J21 tg))) rfl ?_
      by_cases c30 : v19 = 0
      · rw [if_pos c30] at h
        refine Runs.brT (P := v19 = 0) (a := 33) (b := 22) (L := [.ref 93, .int a1, .int a2, .int a3]) (S := []) (z := (zS I20 J21 tg)) rfl c30 ?_
        refine Runs.sN 1 (c' := (34, [.ref 93, .int a1, .int a2, .int a3], [.int (-1)], (zS I20 J21 tg))) rfl ?_
        subst h
        exact Runs.rt rfl
      · rw [if_neg c30] at h
        refine Runs.brF (P := v19 = 0) (a := 33) (b := 22) (L := [.ref 93, .int a1, .int a2, .int a3]) (S := []) (z := (zS I20 J21 tg)) rfl c30 ?_
        refine Runs.sN 5 (c' := (27, [.ref 93, .int a1, .int a2, .int a3], [.int a3, .int a2, .int a1, .int a1, .ref 93], (zS I20 J21 tg))) rfl ?_
        obtain ⟨v22, I23, J24, c31, h⟩ := h
        refine Runs.cl (cm := 248) (as := [.ref 93, .int a1, .int a1, .int a2, .int a3]) (rest := []) (r1 := ((some (.int v22)), (zS I23 J24 tg))) rfl (Nat.le_of_ble_eq_true rfl) c31 ?_
        refine Runs.as (c' := (30, [.ref 93, .int a1, .int a2, .int a3], [.int v22], (zS I23 J24 tg))) rfl ?_
        refine Runs.sN 1 (c' := (34, [.ref 93, .int a1, .int a2, .int a3], [.int v22], (zS I23 J24 tg))) rfl ?_
        subst h
        exact Runs.rt rfl
-- X12_allHarm 
theorem sg_252 {L d : Nat} {xs : Nat → Int32} (I : Nat → Nat → Int32) (J : Nat → Nat → Int64) (tg : Option Nat) (a1 : Int32) (a2 : Int32) (a3 : Int32) {r : Option Value × SS} (h : (Runs (GW L xs) (d + 1) 252 (6, [.ref 93, .int a1, .int a2, .int a3, .int 0, .int 0], [], (zS I J tg)) r)) : Runs (GW L xs) (d + 1) 252 (0, [.ref 93, .int a1, .int a2, .int a3, vU, vU], [], (zS I J tg)) r := by
  refine Runs.sN 4 (c' := (6, [.ref 93, .int a1, .int a2, .int a3, .int 0, .int 0], [], (zS I J tg))) rfl ?_
  exact h
theorem sg_252_6 {L d : Nat} {xs : Nat → Int32} (I : Nat → Nat → Int32) (J : Nat → Nat → Int64) (tg : Option Nat) (x1 : Int32) (x2 : Int32) (x3 : Int32) (x4 : Int32) (x5 : Int32) {r : Option Value × SS} (h : ((if 6 ≤ x5 then (r = (some (.int x4), (zS I J tg))) else (¬ ((680 + x5) < 0 ∨ 1200 ≤ (680 + x5).toNatClampNeg) ∧ (if (I 94 ((680 + x5).toNatClampNeg)) ≤ 0 then (Runs (GW L xs) (d + 1) 252 (6, [.ref 93, .int x1, .int x2, .int x3, .int x4, .int (x5 + 1)], [], (zS I J tg)) r) else (¬ ((680 + x5) < 0 ∨ 1200 ≤ (680 + x5).toNatClampNeg) ∧ ∃ (v1 : Int32) (I2 : Nat → Nat → Int32) (J3 : Nat → Nat → Int64), Runs (GW L xs) d 248 (0, [.ref 93, .int x1, .int x2, .int x5, .int x3, vU], [], (zS I J tg)) ((some (.int v1)), (zS I2 J3 tg)) ∧ Runs (GW L xs) (d + 1) 252 (6, [.ref 93, .int x1, .int x2, .int x3, .int (x4 + ((I 94 ((680 + x5).toNatClampNeg)) * v1)), .int (x5 + 1)], [], (zS I2 J3 tg)) r)))))) : Runs (GW L xs) (d + 1) 252 (6, [.ref 93, .int x1, .int x2, .int x3, .int x4, .int x5], [], (zS I J tg)) r := by
  refine Runs.sN 2 (c' := (10, [.ref 93, .int x1, .int x2, .int x3, .int x4, .int x5], [.int 6, .int x5], (zS I J tg))) rfl ?_
  by_cases c4 : 6 ≤ x5
  · rw [if_pos c4] at h
    refine Runs.brT (P := 6 ≤ x5) (a := 59) (b := 13) (L := [.ref 93, .int x1, .int x2, .int x3, .int x4, .int x5]) (S := []) (z := (zS I J tg)) rfl c4 ?_
    refine Runs.sN 1 (c' := (61, [.ref 93, .int x1, .int x2, .int x3, .int x4, .int x5], [.int x4], (zS I J tg))) rfl ?_
    subst h
    exact Runs.rt rfl
  · rw [if_neg c4] at h
    refine Runs.brF (P := 6 ≤ x5) (a := 59) (b := 13) (L := [.ref 93, .int x1, .int x2, .int x3, .int x4, .int x5]) (S := []) (z := (zS I J tg)) rfl c4 ?_
    refine Runs.sN 5 (c' := (23, [.ref 93, .int x1, .int x2, .int x3, .int x4, .int x5], [.int (680 + x5), .ref 94], (zS I J tg))) rfl ?_
    obtain ⟨c5, h⟩ := h
    refine Runs.to (c' := (24, [.ref 93, .int x1, .int x2, .int x3, .int x4, .int x5], [.int (I 94 ((680 + x5).toNatClampNeg))], (zS I J tg))) (Runs.ild rfl (show (94 : Nat) < 114 by decide) rfl c5) ?_
    by_cases c6 : (I 94 ((680 + x5).toNatClampNeg)) ≤ 0
    · rw [if_pos c6] at h
      refine Runs.brT (P := (I 94 ((680 + x5).toNatClampNeg)) ≤ 0) (a := 53) (b := 27) (L := [.ref 93, .int x1, .int x2, .int x3, .int x4, .int x5]) (S := []) (z := (zS I J tg)) rfl c6 ?_
      refine Runs.sN 2 (c' := (6, [.ref 93, .int x1, .int x2, .int x3, .int x4, .int (x5 + 1)], [], (zS I J tg))) rfl ?_
      exact h
    · rw [if_neg c6] at h
      refine Runs.brF (P := (I 94 ((680 + x5).toNatClampNeg)) ≤ 0) (a := 53) (b := 27) (L := [.ref 93, .int x1, .int x2, .int x3, .int x4, .int x5]) (S := []) (z := (zS I J tg)) rfl c6 ?_
      refine Runs.sN 6 (c' := (39, [.ref 93, .int x1, .int x2, .int x3, .int x4, .int x5], [.int (680 + x5), .ref 94, .int x4], (zS I J tg))) rfl ?_
      obtain ⟨c7, h⟩ := h
      refine Runs.to (c' := (40, [.ref 93, .int x1, .int x2, .int x3, .int x4, .int x5], [.int (I 94 ((680 + x5).toNatClampNeg)), .int x4], (zS I J tg))) (Runs.ild rfl (show (94 : Nat) < 114 by decide) rfl c7) ?_
      refine Runs.sN 5 (c' := (46, [.ref 93, .int x1, .int x2, .int x3, .int x4, .int x5], [.int x3, .int x5, .int x2, .int x1, .ref 93, .int (I 94 ((680 + x5).toNatClampNeg)), .int x4], (zS I J tg))) rfl ?_
      obtain ⟨v1, I2, J3, c8, h⟩ := h
      refine Runs.cl (cm := 248) (as := [.ref 93, .int x1, .int x2, .int x5, .int x3]) (rest := [.int (I 94 ((680 + x5).toNatClampNeg)), .int x4]) (r1 := ((some (.int v1)), (zS I2 J3 tg))) rfl (Nat.le_of_ble_eq_true rfl) c8 ?_
      refine Runs.as (c' := (49, [.ref 93, .int x1, .int x2, .int x3, .int x4, .int x5], [.int v1, .int (I 94 ((680 + x5).toNatClampNeg)), .int x4], (zS I2 J3 tg))) rfl ?_
      refine Runs.sN 5 (c' := (6, [.ref 93, .int x1, .int x2, .int x3, .int (x4 + ((I 94 ((680 + x5).toNatClampNeg)) * v1)), .int (x5 + 1)], [], (zS I2 J3 tg))) rfl ?_
      exact h
-- X12_rights 
theorem sg_253 {L d : Nat} {xs : Nat → Int32} (I : Nat → Nat → Int32) (J : Nat → Nat → Int64) (tg : Option Nat) (a1 : Int32) (a2 : Int32) (a3 : Int32) {r : Option Value × SS} (h : (Runs (GW L xs) (d + 1) 253 (6, [.ref 93, .int a1, .int a2, .int a3, .int 0, .int 0], [], (zS I J tg)) r)) : Runs (GW L xs) (d + 1) 253 (0, [.ref 93, .int a1, .int a2, .int a3, vU, vU], [], (zS I J tg)) r := by
  refine Runs.sN 4 (c' := (6, [.ref 93, .int a1, .int a2, .int a3, .int 0, .int 0], [], (zS I J tg))) rfl ?_
  exact h
theorem sg_253_6 {L d : Nat} {xs : Nat → Int32} (I : Nat → Nat → Int32) (J : Nat → Nat → Int64) (tg : Option Nat) (x1 : Int32) (x2 : Int32) (x3 : Int32) (x4 : Int32) (x5 : Int32) {r : Option Value × SS} (h : ((if 6 ≤ x5 then (r = (some (.int x4), (zS I J tg))) else (¬ ((680 + x5) < 0 ∨ 1200 ≤ (680 + x5).toNatClampNeg) ∧ (if (I 94 ((680 + x5).toNatClampNeg)) ≤ 0 then (Runs (GW L xs) (d + 1) 253 (6, [.ref 93, .int x1, .int x2, .int x3, .int x4, .int (x5 + 1)], [], (zS I J tg)) r) else (∃ (v1 : Int32) (I2 : Nat → Nat → Int32) (J3 : Nat → Nat → Int64), Runs (GW L xs) d 249 (0, [.ref 93, .int x1, .int x2, .int x5, .int x3], [], (zS I J tg)) ((some (.int v1)), (zS I2 J3 tg)) ∧ (if v1 = 0 then (Runs (GW L xs) (d + 1) 253 (6, [.ref 93, .int x1, .int x2, .int x3, .int x4, .int (x5 + 1)], [], (zS I2 J3 tg)) r) else (¬ ((680 + x5) < 0 ∨ 1200 ≤ (680 + x5).toNatClampNeg) ∧ Runs (GW L xs) (d + 1) 253 (6, [.ref 93, .int x1, .int x2, .int x3, .int (x4 + (I2 94 ((680 + x5).toNatClampNeg))), .int (x5 + 1)], [], (zS I2 J3 tg)) r)))))))) : Runs (GW L xs) (d + 1) 253 (6, [.ref 93, .int x1, .int x2, .int x3, .int x4, .int x5], [], (zS I J tg)) r := by
  refine Runs.sN 2 (c' := (10, [.ref 93, .int x1, .int x2, .int x3, .int x4, .int x5], [.int 6, .int x5], (zS I J tg))) rfl ?_
  by_cases c4 : 6 ≤ x5
  · rw [if_pos c4] at h
    refine Runs.brT (P := 6 ≤ x5) (a := 61) (b := 13) (L := [.ref 93, .int x1, .int x2, .int x3, .int x4, .int x5]) (S := []) (z := (zS I J tg)) rfl c4 ?_
    refine Runs.sN 1 (c' := (63, [.ref 93, .int x1, .int x2, .int x3, .int x4, .int x5], [.int x4], (zS I J tg))) rfl ?_
    subst h
    exact Runs.rt rfl
  · rw [if_neg c4] at h
    refine Runs.brF (P := 6 ≤ x5) (a := 61) (b := 13) (L := [.ref 93, .int x1, .int x2, .int x3, .int x4, .int x5]) (S := []) (z := (zS I J tg)) rfl c4 ?_
    refine Runs.sN 5 (c' := (23, [.ref 93, .int x1, .int x2, .int x3, .int x4, .int x5], [.int (680 + x5), .ref 94], (zS I J tg))) rfl ?_
    obtain ⟨c5, h⟩ := h
    refine Runs.to (c' := (24, [.ref 93, .int x1, .int x2, .int x3, .int x4, .int x5], [.int (I 94 ((680 + x5).toNatClampNeg))], (zS I J tg))) (Runs.ild rfl (show (94 : Nat) < 114 by decide) rfl c5) ?_
    by_cases c6 : (I 94 ((680 + x5).toNatClampNeg)) ≤ 0
    · rw [if_pos c6] at h
      refine Runs.brT (P := (I 94 ((680 + x5).toNatClampNeg)) ≤ 0) (a := 55) (b := 27) (L := [.ref 93, .int x1, .int x2, .int x3, .int x4, .int x5]) (S := []) (z := (zS I J tg)) rfl c6 ?_
      refine Runs.sN 2 (c' := (6, [.ref 93, .int x1, .int x2, .int x3, .int x4, .int (x5 + 1)], [], (zS I J tg))) rfl ?_
      exact h
    · rw [if_neg c6] at h
      refine Runs.brF (P := (I 94 ((680 + x5).toNatClampNeg)) ≤ 0) (a := 55) (b := 27) (L := [.ref 93, .int x1, .int x2, .int x3, .int x4, .int x5]) (S := []) (z := (zS I J tg)) rfl c6 ?_
      refine Runs.sN 5 (c' := (33, [.ref 93, .int x1, .int x2, .int x3, .int x4, .int x5], [.int x3, .int x5, .int x2, .int x1, .ref 93], (zS I J tg))) rfl ?_
      obtain ⟨v1, I2, J3, c7, h⟩ := h
      refine Runs.cl (cm := 249) (as := [.ref 93, .int x1, .int x2, .int x5, .int x3]) (rest := []) (r1 := ((some (.int v1)), (zS I2 J3 tg))) rfl (Nat.le_of_ble_eq_true rfl) c7 ?_
      refine Runs.as (c' := (36, [.ref 93, .int x1, .int x2, .int x3, .int x4, .int x5], [.int v1], (zS I2 J3 tg))) rfl ?_
      by_cases c8 : v1 = 0
      · rw [if_pos c8] at h
        refine Runs.brT (P := v1 = 0) (a := 55) (b := 39) (L := [.ref 93, .int x1, .int x2, .int x3, .int x4, .int x5]) (S := []) (z := (zS I2 J3 tg)) rfl c8 ?_
        refine Runs.sN 2 (c' := (6, [.ref 93, .int x1, .int x2, .int x3, .int x4, .int (x5 + 1)], [], (zS I2 J3 tg))) rfl ?_
        exact h
      · rw [if_neg c8] at h
        refine Runs.brF (P := v1 = 0) (a := 55) (b := 39) (L := [.ref 93, .int x1, .int x2, .int x3, .int x4, .int x5]) (S := []) (z := (zS I2 J3 tg)) rfl c8 ?_
        refine Runs.sN 6 (c' := (51, [.ref 93, .int x1, .int x2, .int x3, .int x4, .int x5], [.int (680 + x5), .ref 94, .int x4], (zS I2 J3 tg))) rfl ?_
        obtain ⟨c9, h⟩ := h
        refine Runs.to (c' := (52, [.ref 93, .int x1, .int x2, .int x3, .int x4, .int x5], [.int (I2 94 ((680 + x5).toNatClampNeg)), .int x4], (zS I2 J3 tg))) (Runs.ild rfl (show (94 : Nat) < 114 by decide) rfl c9) ?_
        refine Runs.sN 4 (c' := (6, [.ref 93, .int x1, .int x2, .int x3, .int (x4 + (I2 94 ((680 + x5).toNatClampNeg))), .int (x5 + 1)], [], (zS I2 J3 tg))) rfl ?_
        exact h
-- X12_shares 
theorem sg_254 {L d : Nat} {xs : Nat → Int32} (I : Nat → Nat → Int32) (J : Nat → Nat → Int64) (tg : Option Nat) {r : Option Value × SS} (h : (Runs (GW L xs) d 254 (4, [.ref 93, .int 0, .int 0], [], (zS I J tg)) r)) : Runs (GW L xs) d 254 (0, [.ref 93, vU, vU], [], (zS I J tg)) r := by
  refine Runs.sN 4 (c' := (4, [.ref 93, .int 0, .int 0], [], (zS I J tg))) rfl ?_
  exact h
theorem sg_254_4 {L d : Nat} {xs : Nat → Int32} (I : Nat → Nat → Int32) (J : Nat → Nat → Int64) (tg : Option Nat) (x1 : Int32) (x2 : Int32) {r : Option Value × SS} (h : ((if 6 ≤ x2 then (r = (some (.int x1), (zS I J tg))) else (¬ ((680 + x2) < 0 ∨ 1200 ≤ (680 + x2).toNatClampNeg) ∧ Runs (GW L xs) d 254 (4, [.ref 93, .int (x1 + (I 94 ((680 + x2).toNatClampNeg))), .int (x2 + 1)], [], (zS I J tg)) r)))) : Runs (GW L xs) d 254 (4, [.ref 93, .int x1, .int x2], [], (zS I J tg)) r := by
  refine Runs.sN 2 (c' := (7, [.ref 93, .int x1, .int x2], [.int 6, .int x2], (zS I J tg))) rfl ?_
  by_cases c1 : 6 ≤ x2
  · rw [if_pos c1] at h
    refine Runs.brT (P := 6 ≤ x2) (a := 29) (b := 10) (L := [.ref 93, .int x1, .int x2]) (S := []) (z := (zS I J tg)) rfl c1 ?_
    refine Runs.sN 1 (c' := (30, [.ref 93, .int x1, .int x2], [.int x1], (zS I J tg))) rfl ?_
    subst h
    exact Runs.rt rfl
  · rw [if_neg c1] at h
    refine Runs.brF (P := 6 ≤ x2) (a := 29) (b := 10) (L := [.ref 93, .int x1, .int x2]) (S := []) (z := (zS I J tg)) rfl c1 ?_
    refine Runs.sN 6 (c' := (20, [.ref 93, .int x1, .int x2], [.int (680 + x2), .ref 94, .int x1], (zS I J tg))) rfl ?_
    obtain ⟨c2, h⟩ := h
    refine Runs.to (c' := (21, [.ref 93, .int x1, .int x2], [.int (I 94 ((680 + x2).toNatClampNeg)), .int x1], (zS I J tg))) (Runs.ild rfl (show (94 : Nat) < 114 by decide) rfl c2) ?_
    refine Runs.sN 4 (c' := (4, [.ref 93, .int (x1 + (I 94 ((680 + x2).toNatClampNeg))), .int (x2 + 1)], [], (zS I J tg))) rfl ?_
    exact h
-- X12_odds 
theorem sg_255 {L d : Nat} {xs : Nat → Int32} (I : Nat → Nat → Int32) (J : Nat → Nat → Int64) (tg : Option Nat) (a1 : Int32) (a2 : Int32) (a3 : Int32) {r : Option Value × SS} (h : (∃ (v19 : Int32) (I20 : Nat → Nat → Int32) (J21 : Nat → Nat → Int64), Runs (GW L xs) d 179 (0, [.ref 93, .int a1], [], (zS I J tg)) ((some (.int v19)), (zS I20 J21 tg)) ∧ (if v19 = 0 then (r = (some (.int (-1)), (zS I20 J21 tg))) else (∃ (v22 : Int32) (I23 : Nat → Nat → Int32) (J24 : Nat → Nat → Int64), Runs (GW L xs) d 182 (0, [.int a2], [], (zS I20 J21 tg)) ((some (.int v22)), (zS I23 J24 tg)) ∧ (if v22 = 0 then (r = (some (.int (-1)), (zS I23 J24 tg))) else (∃ (v25 : Int32) (I26 : Nat → Nat → Int32) (J27 : Nat → Nat → Int64), Runs (GW L xs) d 177 (0, [.int a3, .int 0, .int 2], [], (zS I23 J24 tg)) ((some (.int v25)), (zS I26 J27 tg)) ∧ (if v25 = 0 then (r = (some (.int (-1)), (zS I26 J27 tg))) else ((if a3 = 0 then (∃ (v28 : Int32) (I29 : Nat → Nat → Int32) (J30 : Nat → Nat → Int64), Runs (GW L xs) d 252 (0, [.ref 93, .int a1, .int a1, .int a2, vU, vU], [], (zS I26 J27 tg)) ((some (.int v28)), (zS I29 J30 tg)) ∧ r = (some (.int v28), (zS I29 J30 tg))) else ((if a3 = 1 then (∃ (v31 : Int32) (I32 : Nat → Nat → Int32) (J33 : Nat → Nat → Int64), Runs (GW L xs) d 253 (0, [.ref 93, .int a1, .int a1, .int a2, vU, vU], [], (zS I26 J27 tg)) ((some (.int v31)), (zS I32 J33 tg)) ∧ r = (some (.int v31), (zS I32 J33 tg))) else (∃ (v34 : Int32) (I35 : Nat → Nat → Int32) (J36 : Nat → Nat → Int64), Runs (GW L xs) d 254 (0, [.ref 93, vU, vU], [], (zS I26 J27 tg)) ((some (.int v34)), (zS I35 J36 tg)) ∧ r = (some (.int v34), (zS I35 J36 tg)))))))))))))) : Runs (GW L xs) (d + 1) 255 (0, [.ref 93, .int a1, .int a2, .int a3], [], (zS I J tg)) r := by
  refine Runs.sN 2 (c' := (2, [.ref 93, .int a1, .int a2, .int a3], [.int a1, .ref 93], (zS I J tg))) rfl ?_
  obtain ⟨v19, I20, J21, c37, h⟩ := h
  refine Runs.cl (cm := 179) (as := [.ref 93, .int a1]) (rest := []) (r1 := ((some (.int v19)), (zS I20 J21 tg))) rfl (Nat.le_of_ble_eq_true rfl) c37 ?_
  refine Runs.as (c' := (5, [.ref 93, .int a1, .int a2, .int a3], [.int v19], (zS I20 J21 tg))) rfl ?_
  by_cases c38 : v19 = 0
  · rw [if_pos c38] at h
    refine Runs.brT (P := v19 = 0) (a := 24) (b := 8) (L := [.ref 93, .int a1, .int a2, .int a3]) (S := []) (z := (zS I20 J21 tg)) rfl c38 ?_
    refine Runs.sN 1 (c' := (25, [.ref 93, .int a1, .int a2, .int a3], [.int (-1)], (zS I20 J21 tg))) rfl ?_
    subst h
    exact Runs.rt rfl
  · rw [if_neg c38] at h
    refine Runs.brF (P := v19 = 0) (a := 24) (b := 8) (L := [.ref 93, .int a1, .int a2, .int a3]) (S := []) (z := (zS I20 J21 tg)) rfl c38 ?_
    refine Runs.sN 1 (c' := (9, [.ref 93, .int a1, .int a2, .int a3], [.int a2], (zS I20 J21 tg))) rfl ?_
    obtain ⟨v22, I23, J24, c39, h⟩ := h
    refine Runs.cl (cm := 182) (as := [.int a2]) (rest := []) (r1 := ((some (.int v22)), (zS I23 J24 tg))) rfl (Nat.le_of_ble_eq_true rfl) c39 ?_
    refine Runs.as (c' := (12, [.ref 93, .int a1, .int a2, .int a3], [.int v22], (zS I23 J24 tg))) rfl ?_
    by_cases c40 : v22 = 0
    · rw [if_pos c40] at h
      refine Runs.brT (P := v22 = 0) (a := 24) (b := 15) (L := [.ref 93, .int a1, .int a2, .int a3]) (S := []) (z := (zS I23 J24 tg)) rfl c40 ?_
      refine Runs.sN 1 (c' := (25, [.ref 93, .int a1, .int a2, .int a3], [.int (-1)], (zS I23 J24 tg))) rfl ?_
      subst h
      exact Runs.rt rfl
    · rw [if_neg c40] at h
      refine Runs.brF (P := v22 = 0) (a := 24) (b := 15) (L := [.ref 93, .int a1, .int a2, .int a3]) (S := []) (z := (zS I23 J24 tg)) rfl c40 ?_
      refine Runs.sN 3 (c' := (18, [.ref 93, .int a1, .int a2, .int a3], [.int 2, .int 0, .int a3], (zS I23 J24 tg))) rfl ?_
      obtain ⟨v25, I26, J27, c41, h⟩ := h
      refine Runs.cl (cm := 177) (as := [.int a3, .int 0, .int 2]) (rest := []) (r1 := ((some (.int v25)), (zS I26 J27 tg))) rfl (Nat.le_of_ble_eq_true rfl) c41 ?_
      refine Runs.as (c' := (21, [.ref 93, .int a1, .int a2, .int a3], [.int v25], (zS I26 J27 tg))) rfl ?_
      by_cases c42 : v25 = 0
      · rw [if_pos c42] at h
        refine Runs.brT (P := v25 = 0) (a := 24) (b := 26) (L := [.ref 93, .int a1, .int a2, .int a3]) (S := []) (z := (zS I26 J27 tg)) rfl c42 ?_
        refine Runs.sN 1 (c' := (25, [.ref 93, .int a1, .int a2, .int a3], [.int (-1)], (zS I26 J27 tg))) rfl ?_
        subst h
        exact Runs.rt rfl
      · rw [if_neg c42] at h
        refine Runs.brF (P := v25 = 0) (a := 24) (b := 26) (L := [.ref 93, .int a1, .int a2, .int a3]) (S := []) (z := (zS I26 J27 tg)) rfl c42 ?_
        refine Runs.sN 1 (c' := (27, [.ref 93, .int a1, .int a2, .int a3], [.int a3], (zS I26 J27 tg))) rfl ?_
        by_cases c43 : a3 = 0
        · rw [if_pos c43] at h
          refine Runs.brT (P := a3 = 0) (a := 30) (b := 40) (L := [.ref 93, .int a1, .int a2, .int a3]) (S := []) (z := (zS I26 J27 tg)) rfl c43 ?_
          refine Runs.sN 4 (c' := (34, [.ref 93, .int a1, .int a2, .int a3], [.int a2, .int a1, .int a1, .ref 93], (zS I26 J27 tg))) rfl ?_
          obtain ⟨v28, I29, J30, c44, h⟩ := h
          refine Runs.cl (cm := 252) (as := [.ref 93, .int a1, .int a1, .int a2]) (rest := []) (r1 := ((some (.int v28)), (zS I29 J30 tg))) rfl (Nat.le_of_ble_eq_true rfl) c44 ?_
          refine Runs.as (c' := (37, [.ref 93, .int a1, .int a2, .int a3], [.int v28], (zS I29 J30 tg))) rfl ?_
          refine Runs.sN 1 (c' := (59, [.ref 93, .int a1, .int a2, .int a3], [.int v28], (zS I29 J30 tg))) rfl ?_
          subst h
          exact Runs.rt rfl
        · rw [if_neg c43] at h
          refine Runs.brF (P := a3 = 0) (a := 30) (b := 40) (L := [.ref 93, .int a1, .int a2, .int a3]) (S := []) (z := (zS I26 J27 tg)) rfl c43 ?_
          refine Runs.sN 2 (c' := (42, [.ref 93, .int a1, .int a2, .int a3], [.int 1, .int a3], (zS I26 J27 tg))) rfl ?_
          by_cases c45 : a3 = 1
          · rw [if_pos c45] at h
            refine Runs.brT (P := a3 = 1) (a := 45) (b := 55) (L := [.ref 93, .int a1, .int a2, .int a3]) (S := []) (z := (zS I26 J27 tg)) rfl c45 ?_
            refine Runs.sN 4 (c' := (49, [.ref 93, .int a1, .int a2, .int a3], [.int a2, .int a1, .int a1, .ref 93], (zS I26 J27 tg))) rfl ?_
            obtain ⟨v31, I32, J33, c46, h⟩ := h
            refine Runs.cl (cm := 253) (as := [.ref 93, .int a1, .int a1, .int a2]) (rest := []) (r1 := ((some (.int v31)), (zS I32 J33 tg))) rfl (Nat.le_of_ble_eq_true rfl) c46 ?_
            refine Runs.as (c' := (52, [.ref 93, .int a1, .int a2, .int a3], [.int v31], (zS I32 J33 tg))) rfl ?_
            refine Runs.sN 1 (c' := (59, [.ref 93, .int a1, .int a2, .int a3], [.int v31], (zS I32 J33 tg))) rfl ?_
            subst h
            exact Runs.rt rfl
          · rw [if_neg c45] at h
            refine Runs.brF (P := a3 = 1) (a := 45) (b := 55) (L := [.ref 93, .int a1, .int a2, .int a3]) (S := []) (z := (zS I26 J27 tg)) rfl c45 ?_
            refine Runs.sN 1 (c' := (56, [.ref 93, .int a1, .int a2, .int a3], [.ref 93], (zS I26 J27 tg))) rfl ?_
            obtain ⟨v34, I35, J36, c47, h⟩ := h
            refine Runs.cl (cm := 254) (as := [.ref 93]) (rest := []) (r1 := ((some (.int v34)), (zS I35 J36 tg))) rfl (Nat.le_of_ble_eq_true rfl) c47 ?_
            refine Runs.as (c' := (59, [.ref 93, .int a1, .int a2, .int a3], [.int v34], (zS I35 J36 tg))) rfl ?_
            subst h
            exact Runs.rt rfl
-- X12_stock 
theorem sg_256 {L d : Nat} {xs : Nat → Int32} (I : Nat → Nat → Int32) (J : Nat → Nat → Int64) (tg : Option Nat) (a1 : Int32) (a2 : Int32) (a3 : Int32) {r : Option Value × SS} (h : (∃ (v13 : Int32) (I14 : Nat → Nat → Int32) (J15 : Nat → Nat → Int64), Runs (GW L xs) d 183 (0, [.int a1, .int a2, .int a3], [], (zS I J tg)) ((some (.int v13)), (zS I14 J15 tg)) ∧ (if v13 = 0 then (r = (some (.int (-1)), (zS I14 J15 tg))) else ((if (I14 94 5) = 10 then (r = (some (.int (-1)), (zS I14 J15 tg))) else (∃ (v16 : Int32) (I17 : Nat → Nat → Int32) (J18 : Nat → Nat → Int64), Runs (GW L xs) d 187 (0, [.int a1, .int a2, .int a3], [], (zS I14 J15 tg)) ((some (.int v16)), (zS I17 J18 tg)) ∧ Runs (GW L xs) (d + 1) 256 (33, [.ref 93, .int a1, .int a2, .int a3, .int v16, .int 0], [], (zS I17 J18 tg)) r)))))) : Runs (GW L xs) (d + 1) 256 (0, [.ref 93, .int a1, .int a2, .int a3, vU, vU], [], (zS I J tg)) r := by
  refine Runs.sN 3 (c' := (3, [.ref 93, .int a1, .int a2, .int a3, vU, vU], [.int a3, .int a2, .int a1], (zS I J tg))) rfl ?_
  obtain ⟨v13, I14, J15, c19, h⟩ := h
  refine Runs.cl (cm := 183) (as := [.int a1, .int a2, .int a3]) (rest := []) (r1 := ((some (.int v13)), (zS I14 J15 tg))) rfl (Nat.le_of_ble_eq_true rfl) c19 ?_
  refine Runs.as (c' := (6, [.ref 93, .int a1, .int a2, .int a3, vU, vU], [.int v13], (zS I14 J15 tg))) rfl ?_
  by_cases c20 : v13 = 0
  · rw [if_pos c20] at h
    refine Runs.brT (P := v13 = 0) (a := 20) (b := 9) (L := [.ref 93, .int a1, .int a2, .int a3, vU, vU]) (S := []) (z := (zS I14 J15 tg)) rfl c20 ?_
    refine Runs.sN 1 (c' := (21, [.ref 93, .int a1, .int a2, .int a3, vU, vU], [.int (-1)], (zS I14 J15 tg))) rfl ?_
    subst h
    exact Runs.rt rfl
  · rw [if_neg c20] at h
    refine Runs.brF (P := v13 = 0) (a := 20) (b := 9) (L := [.ref 93, .int a1, .int a2, .int a3, vU, vU]) (S := []) (z := (zS I14 J15 tg)) rfl c20 ?_
    refine Runs.sN 5 (c' := (17, [.ref 93, .int a1, .int a2, .int a3, vU, vU], [.int 10, .int (I14 94 5)], (zS I14 J15 tg))) rfl ?_
    by_cases c21 : (I14 94 5) = 10
    · rw [if_pos c21] at h
      refine Runs.brT (P := (I14 94 5) = 10) (a := 20) (b := 22) (L := [.ref 93, .int a1, .int a2, .int a3, vU, vU]) (S := []) (z := (zS I14 J15 tg)) rfl c21 ?_
      refine Runs.sN 1 (c' := (21, [.ref 93, .int a1, .int a2, .int a3, vU, vU], [.int (-1)], (zS I14 J15 tg))) rfl ?_
      subst h
      exact Runs.rt rfl
    · rw [if_neg c21] at h
      refine Runs.brF (P := (I14 94 5) = 10) (a := 20) (b := 22) (L := [.ref 93, .int a1, .int a2, .int a3, vU, vU]) (S := []) (z := (zS I14 J15 tg)) rfl c21 ?_
      refine Runs.sN 3 (c' := (25, [.ref 93, .int a1, .int a2, .int a3, vU, vU], [.int a3, .int a2, .int a1], (zS I14 J15 tg))) rfl ?_
      obtain ⟨v16, I17, J18, c22, h⟩ := h
      refine Runs.cl (cm := 187) (as := [.int a1, .int a2, .int a3]) (rest := []) (r1 := ((some (.int v16)), (zS I17 J18 tg))) rfl (Nat.le_of_ble_eq_true rfl) c22 ?_
      refine Runs.as (c' := (28, [.ref 93, .int a1, .int a2, .int a3, vU, vU], [.int v16], (zS I17 J18 tg))) rfl ?_
      refine Runs.sN 3 (c' := (33, [.ref 93, .int a1, .int a2, .int a3, .int v16, .int 0], [], (zS I17 J18 tg))) rfl ?_
      exact h
theorem sg_256_33 {L d : Nat} {xs : Nat → Int32} (I : Nat → Nat → Int32) (J : Nat → Nat → Int64) (tg : Option Nat) (x1 : Int32) (x2 : Int32) (x3 : Int32) (x4 : Int32) (x5 : Int32) {r : Option Value × SS} (h : ((if (I 94 5) ≤ x5 then (¬ ((800 + (I 94 5)) < 0 ∨ 1200 ≤ (800 + (I 94 5)).toNatClampNeg) ∧ r = (some (.int (((up2 I 94 ((800 + (I 94 5)).toNatClampNeg) x4) 94 5) + 1)), (zS (up2 (up2 I 94 ((800 + (I 94 5)).toNatClampNeg) x4) 94 5 (((up2 I 94 ((800 + (I 94 5)).toNatClampNeg) x4) 94 5) + 1)) J tg))) else (¬ ((800 + x5) < 0 ∨ 1200 ≤ (800 + x5).toNatClampNeg) ∧ (if (I 94 ((800 + x5).toNatClampNeg)) = x4 then (r = (some (.int (-1)), (zS I J tg))) else (Runs (GW L xs) (d + 1) 256 (33, [.ref 93, .int x1, .int x2, .int x3, .int x4, .int (x5 + 1)], [], (zS I J tg)) r)))))) : Runs (GW L xs) (d + 1) 256 (33, [.ref 93, .int x1, .int x2, .int x3, .int x4, .int x5], [], (zS I J tg)) r := by
  refine Runs.sN 5 (c' := (41, [.ref 93, .int x1, .int x2, .int x3, .int x4, .int x5], [.int (I 94 5), .int x5], (zS I J tg))) rfl ?_
  by_cases c1 : (I 94 5) ≤ x5
  · rw [if_pos c1] at h
    refine Runs.brT (P := (I 94 5) ≤ x5) (a := 68) (b := 44) (L := [.ref 93, .int x1, .int x2, .int x3, .int x4, .int x5]) (S := []) (z := (zS I J tg)) rfl c1 ?_
    refine Runs.sN 9 (c' := (84, [.ref 93, .int x1, .int x2, .int x3, .int x4, .int x5], [.int x4, .int (800 + (I 94 5)), .ref 94], (zS I J tg))) rfl ?_
    obtain ⟨c2, h⟩ := h
    refine Runs.to (c' := (85, [.ref 93, .int x1, .int x2, .int x3, .int x4, .int x5], [], (zS (up2 I 94 ((800 + (I 94 5)).toNatClampNeg) x4) J tg))) (Runs.ist rfl (show (94 : Nat) < 114 by decide) rfl c2) ?_
    refine Runs.sN 12 (c' := (101, [.ref 93, .int x1, .int x2, .int x3, .int x4, .int x5], [.int (((up2 I 94 ((800 + (I 94 5)).toNatClampNeg) x4) 94 5) + 1)], (zS (up2 (up2 I 94 ((800 + (I 94 5)).toNatClampNeg) x4) 94 5 (((up2 I 94 ((800 + (I 94 5)).toNatClampNeg) x4) 94 5) + 1)) J tg))) rfl ?_
    subst h
    exact Runs.rt rfl
  · rw [if_neg c1] at h
    refine Runs.brF (P := (I 94 5) ≤ x5) (a := 68) (b := 44) (L := [.ref 93, .int x1, .int x2, .int x3, .int x4, .int x5]) (S := []) (z := (zS I J tg)) rfl c1 ?_
    refine Runs.sN 5 (c' := (54, [.ref 93, .int x1, .int x2, .int x3, .int x4, .int x5], [.int (800 + x5), .ref 94], (zS I J tg))) rfl ?_
    obtain ⟨c3, h⟩ := h
    refine Runs.to (c' := (55, [.ref 93, .int x1, .int x2, .int x3, .int x4, .int x5], [.int (I 94 ((800 + x5).toNatClampNeg))], (zS I J tg))) (Runs.ild rfl (show (94 : Nat) < 114 by decide) rfl c3) ?_
    refine Runs.sN 1 (c' := (57, [.ref 93, .int x1, .int x2, .int x3, .int x4, .int x5], [.int x4, .int (I 94 ((800 + x5).toNatClampNeg))], (zS I J tg))) rfl ?_
    by_cases c4 : (I 94 ((800 + x5).toNatClampNeg)) = x4
    · rw [if_pos c4] at h
      refine Runs.brT (P := (I 94 ((800 + x5).toNatClampNeg)) = x4) (a := 60) (b := 62) (L := [.ref 93, .int x1, .int x2, .int x3, .int x4, .int x5]) (S := []) (z := (zS I J tg)) rfl c4 ?_
      refine Runs.sN 1 (c' := (61, [.ref 93, .int x1, .int x2, .int x3, .int x4, .int x5], [.int (-1)], (zS I J tg))) rfl ?_
      subst h
      exact Runs.rt rfl
    · rw [if_neg c4] at h
      refine Runs.brF (P := (I 94 ((800 + x5).toNatClampNeg)) = x4) (a := 60) (b := 62) (L := [.ref 93, .int x1, .int x2, .int x3, .int x4, .int x5]) (S := []) (z := (zS I J tg)) rfl c4 ?_
      refine Runs.sN 2 (c' := (33, [.ref 93, .int x1, .int x2, .int x3, .int x4, .int (x5 + 1)], [], (zS I J tg))) rfl ?_
      exact h
-- X12_tryOn 
theorem sg_257 {L d : Nat} {xs : Nat → Int32} (I : Nat → Nat → Int32) (J : Nat → Nat → Int64) (tg : Option Nat) (a1 : Int32) {r : Option Value × SS} (h : (Runs (GW L xs) (d + 1) 257 (2, [.ref 93, .int a1, .int 0], [], (zS I J tg)) r)) : Runs (GW L xs) (d + 1) 257 (0, [.ref 93, .int a1, vU], [], (zS I J tg)) r := by
  refine Runs.sN 2 (c' := (2, [.ref 93, .int a1, .int 0], [], (zS I J tg))) rfl ?_
  exact h
theorem sg_257_2 {L d : Nat} {xs : Nat → Int32} (I : Nat → Nat → Int32) (J : Nat → Nat → Int64) (tg : Option Nat) (x1 : Int32) (x2 : Int32) {r : Option Value × SS} (h : ((if 22 ≤ x2 then (r = (none, (zS (up2 I 94 548 0) J tg))) else (∃ (v1 : Int32) (I2 : Nat → Nat → Int32) (J3 : Nat → Nat → Int64), Runs (GW L xs) d 184 (0, [.ref 93, .int x1, .int x2], [], (zS I J tg)) ((some (.int v1)), (zS I2 J3 tg)) ∧ ¬ ((548 + x2) < 0 ∨ 1200 ≤ (548 + x2).toNatClampNeg) ∧ Runs (GW L xs) (d + 1) 257 (2, [.ref 93, .int x1, .int (x2 + 1)], [], (zS (up2 I2 94 ((548 + x2).toNatClampNeg) v1) J3 tg)) r)))) : Runs (GW L xs) (d + 1) 257 (2, [.ref 93, .int x1, .int x2], [], (zS I J tg)) r := by
  refine Runs.sN 2 (c' := (5, [.ref 93, .int x1, .int x2], [.int 22, .int x2], (zS I J tg))) rfl ?_
  by_cases c4 : 22 ≤ x2
  · rw [if_pos c4] at h
    refine Runs.brT (P := 22 ≤ x2) (a := 30) (b := 8) (L := [.ref 93, .int x1, .int x2]) (S := []) (z := (zS I J tg)) rfl c4 ?_
    refine Runs.sN 5 (c' := (39, [.ref 93, .int x1, .int x2], [], (zS (up2 I 94 548 0) J tg))) rfl ?_
    subst h
    exact Runs.rt rfl
  · rw [if_neg c4] at h
    refine Runs.brF (P := 22 ≤ x2) (a := 30) (b := 8) (L := [.ref 93, .int x1, .int x2]) (S := []) (z := (zS I J tg)) rfl c4 ?_
    refine Runs.sN 8 (c' := (20, [.ref 93, .int x1, .int x2], [.int x2, .int x1, .ref 93, .int (548 + x2), .ref 94], (zS I J tg))) rfl ?_
    obtain ⟨v1, I2, J3, c5, h⟩ := h
    refine Runs.cl (cm := 184) (as := [.ref 93, .int x1, .int x2]) (rest := [.int (548 + x2), .ref 94]) (r1 := ((some (.int v1)), (zS I2 J3 tg))) rfl (Nat.le_of_ble_eq_true rfl) c5 ?_
    refine Runs.as (c' := (23, [.ref 93, .int x1, .int x2], [.int v1, .int (548 + x2), .ref 94], (zS I2 J3 tg))) rfl ?_
    obtain ⟨c6, h⟩ := h
    refine Runs.to (c' := (24, [.ref 93, .int x1, .int x2], [], (zS (up2 I2 94 ((548 + x2).toNatClampNeg) v1) J3 tg))) (Runs.ist rfl (show (94 : Nat) < 114 by decide) rfl c6) ?_
    refine Runs.sN 2 (c' := (2, [.ref 93, .int x1, .int (x2 + 1)], [], (zS (up2 I2 94 ((548 + x2).toNatClampNeg) v1) J3 tg))) rfl ?_
    exact h
-- X12_addListed 
theorem sg_258 {L d : Nat} {xs : Nat → Int32} (I : Nat → Nat → Int32) (J : Nat → Nat → Int64) (tg : Option Nat) (a1 : Int32) (a2 : Int32) {r : Option Value × SS} (h : (Runs (GW L xs) (d + 1) 258 (2, [.ref 93, .int a1, .int a2, .int 0], [], (zS I J tg)) r)) : Runs (GW L xs) (d + 1) 258 (0, [.ref 93, .int a1, .int a2, vU], [], (zS I J tg)) r := by
  refine Runs.sN 2 (c' := (2, [.ref 93, .int a1, .int a2, .int 0], [], (zS I J tg))) rfl ?_
  exact h
theorem sg_258_2 {L d : Nat} {xs : Nat → Int32} (I : Nat → Nat → Int32) (J : Nat → Nat → Int64) (tg : Option Nat) (x1 : Int32) (x2 : Int32) (x3 : Int32) {r : Option Value × SS} (h : ((if (I 94 5) ≤ x3 then (r = (none, (zS I J tg))) else ((if ((x2 >>> (x3 &&& 31)) &&& 1) = 1 then (¬ ((800 + x3) < 0 ∨ 1200 ≤ (800 + x3).toNatClampNeg) ∧ ∃ (I1 : Nat → Nat → Int32) (J2 : Nat → Nat → Int64), Runs (GW L xs) d 189 (0, [.ref 93, .int x1, .int (I 94 ((800 + x3).toNatClampNeg)), vU], [], (zS I J tg)) (none, (zS I1 J2 tg)) ∧ Runs (GW L xs) (d + 1) 258 (2, [.ref 93, .int x1, .int x2, .int (x3 + 1)], [], (zS I1 J2 tg)) r) else (Runs (GW L xs) (d + 1) 258 (2, [.ref 93, .int x1, .int x2, .int (x3 + 1)], [], (zS I J tg)) r)))))) : Runs (GW L xs) (d + 1) 258 (2, [.ref 93, .int x1, .int x2, .int x3], [], (zS I J tg)) r := by
  refine Runs.sN 5 (c' := (9, [.ref 93, .int x1, .int x2, .int x3], [.int (I 94 5), .int x3], (zS I J tg))) rfl ?_
  by_cases c3 : (I 94 5) ≤ x3
  · rw [if_pos c3] at h
    refine Runs.brT (P := (I 94 5) ≤ x3) (a := 42) (b := 12) (L := [.ref 93, .int x1, .int x2, .int x3]) (S := []) (z := (zS I J tg)) rfl c3 ?_
    subst h
    exact Runs.rt rfl
  · rw [if_neg c3] at h
    refine Runs.brF (P := (I 94 5) ≤ x3) (a := 42) (b := 12) (L := [.ref 93, .int x1, .int x2, .int x3]) (S := []) (z := (zS I J tg)) rfl c3 ?_
    refine Runs.sN 6 (c' := (18, [.ref 93, .int x1, .int x2, .int x3], [.int 1, .int ((x2 >>> (x3 &&& 31)) &&& 1)], (zS I J tg))) rfl ?_
    by_cases c4 : ((x2 >>> (x3 &&& 31)) &&& 1) = 1
    · rw [if_pos c4] at h
      refine Runs.brT (P := ((x2 >>> (x3 &&& 31)) &&& 1) = 1) (a := 21) (b := 36) (L := [.ref 93, .int x1, .int x2, .int x3]) (S := []) (z := (zS I J tg)) rfl c4 ?_
      refine Runs.sN 7 (c' := (32, [.ref 93, .int x1, .int x2, .int x3], [.int (800 + x3), .ref 94, .int x1, .ref 93], (zS I J tg))) rfl ?_
      obtain ⟨c5, h⟩ := h
      refine Runs.to (c' := (33, [.ref 93, .int x1, .int x2, .int x3], [.int (I 94 ((800 + x3).toNatClampNeg)), .int x1, .ref 93], (zS I J tg))) (Runs.ild rfl (show (94 : Nat) < 114 by decide) rfl c5) ?_
      obtain ⟨I1, J2, c6, h⟩ := h
      refine Runs.cl (cm := 189) (as := [.ref 93, .int x1, .int (I 94 ((800 + x3).toNatClampNeg))]) (rest := []) (r1 := (none, (zS I1 J2 tg))) rfl (Nat.le_of_ble_eq_true rfl) c6 ?_
      refine Runs.as (c' := (36, [.ref 93, .int x1, .int x2, .int x3], [], (zS I1 J2 tg))) rfl ?_
      refine Runs.sN 2 (c' := (2, [.ref 93, .int x1, .int x2, .int (x3 + 1)], [], (zS I1 J2 tg))) rfl ?_
      exact h
    · rw [if_neg c4] at h
      refine Runs.brF (P := ((x2 >>> (x3 &&& 31)) &&& 1) = 1) (a := 21) (b := 36) (L := [.ref 93, .int x1, .int x2, .int x3]) (S := []) (z := (zS I J tg)) rfl c4 ?_
      refine Runs.sN 2 (c' := (2, [.ref 93, .int x1, .int x2, .int (x3 + 1)], [], (zS I J tg))) rfl ?_
      exact h
